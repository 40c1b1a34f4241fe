/-! CALLS: image, restore -/
section
variable {d B : Nat} {M N : ev_Mem}
theorem c26 : (26 : Int32).toNatClampNeg = 26 := rfl
theorem c360 : (360 : Int32).toNatClampNeg = 360 := rfl
theorem c930 : (930 : Int32).toNatClampNeg = 930 := rfl
theorem c8 : (8 : Int32).toNatClampNeg = 8 := rfl
theorem c9 : (9 : Int32).toNatClampNeg = 9 := rfl
theorem c5 : (5 : Int32).toNatClampNeg = 5 := rfl
theorem cp_in {k0 k1 n i : Nat} (h : i < n) : (ev_cp M k0 k1 0 0 n).1 k1 i = M.1 k0 i := by
  rw [cp_row, pk_cpy_in (by omega) (by omega), Nat.zero_add, Nat.sub_zero]
theorem kX9_copyOfi : Cl LX (d + 1) mX9_copyOf [.ref 100, .ref 43] M (fun r M2 => r = none ∧ (∀ c, c < 100 ∨ 103 < c → M2.1 c = M.1 c) ∧ (∀ j, j < 10 → j ≠ 1 → j ≠ 5 → j ≠ 7 → M2.1 100 j = M.1 43 j) ∧ (∀ i, i < 26 → M2.1 101 i = M.1 44 i) ∧ (∀ i, i < 360 → M2.1 102 i = M.1 45 i) ∧ ∀ i, i < 930 → M2.1 103 i = M.1 46 i) := by
  refine Cl_of rfl (Nat.le_of_ble_eq_true rfl) rfl (gX9_copyOfi_0 fun M1 e1 => ⟨⟨by decide, by decide, by decide, by decide, by decide⟩, fun M2 e2 M3 e3 M4 e4 M5 e5 => ⟨⟨by decide, by decide, by decide, by decide, by decide⟩, fun M6 e6 M7 e7 => ⟨⟨by decide, by decide, by decide, by decide, by decide⟩, fun M8 e8 M9 e9 M10 e10 => ⟨rfl, ?_⟩⟩⟩⟩)
  rw [c0, c26] at e2
  rw [c0, c360] at e6
  rw [c0, c930] at e8
  have f1 : ∀ c, c < 100 ∨ 103 < c → M1.1 c = M.1 c := fun c hc => by rw [e1, wr_cell (by omega)]
  have f2 : ∀ c, c < 100 ∨ 103 < c → M2.1 c = M.1 c := fun c hc => by rw [e2, cp_cell (by omega), f1 c hc]
  have f3 : ∀ c, c < 100 ∨ 103 < c → M3.1 c = M.1 c := fun c hc => by rw [e3, wr_cell (by omega), f2 c hc]
  have f4 : ∀ c, c < 100 ∨ 103 < c → M4.1 c = M.1 c := fun c hc => by rw [e4, wr_cell (by omega), f3 c hc]
  have f5 : ∀ c, c < 100 ∨ 103 < c → M5.1 c = M.1 c := fun c hc => by rw [e5, wr_cell (by omega), f4 c hc]
  have f6 : ∀ c, c < 100 ∨ 103 < c → M6.1 c = M.1 c := fun c hc => by rw [e6, cp_cell (by omega), f5 c hc]
  have f7 : ∀ c, c < 100 ∨ 103 < c → M7.1 c = M.1 c := fun c hc => by rw [e7, wr_cell (by omega), f6 c hc]
  have f8 : ∀ c, c < 100 ∨ 103 < c → M8.1 c = M.1 c := fun c hc => by rw [e8, cp_cell (by omega), f7 c hc]
  have f9 : ∀ c, c < 100 ∨ 103 < c → M9.1 c = M.1 c := fun c hc => by rw [e9, wr_cell (by omega), f8 c hc]
  have f10 : ∀ c, c < 100 ∨ 103 < c → M10.1 c = M.1 c := fun c hc => by rw [e10, wr_cell (by omega), f9 c hc]
  refine ⟨f10, fun j h1 h2 h3 h4 => ?_, fun i hi => ?_, fun i hi => ?_, fun i hi => ?_⟩
  · rcases (by omega : j = 0 ∨ j = 2 ∨ j = 3 ∨ j = 4 ∨ j = 6 ∨ j = 8 ∨ j = 9) with rfl | rfl | rfl | rfl | rfl | rfl | rfl
    · rw [e10, wr_ne (by omega), e9, wr_ne (by omega), e8, cp_cell (by omega), e7, wr_ne (by omega), e6, cp_cell (by omega), e5, wr_ne (by omega), e4, wr_ne (by omega), e3, wr_ne (by omega), e2, cp_cell (by omega), e1, wr_same]
    · rw [e10, wr_ne (by omega), e9, wr_ne (by omega), e8, cp_cell (by omega), e7, wr_ne (by omega), e6, cp_cell (by omega), e5, wr_ne (by omega), e4, wr_ne (by omega), e3, wr_same, f2 43 (by omega)]
    · rw [e10, wr_ne (by omega), e9, wr_ne (by omega), e8, cp_cell (by omega), e7, wr_ne (by omega), e6, cp_cell (by omega), e5, wr_ne (by omega), e4, wr_same, f3 43 (by omega)]
    · rw [e10, wr_ne (by omega), e9, wr_ne (by omega), e8, cp_cell (by omega), e7, wr_ne (by omega), e6, cp_cell (by omega), e5, wr_same, f4 43 (by omega)]
    · rw [e10, wr_ne (by omega), e9, wr_ne (by omega), e8, cp_cell (by omega), e7, wr_same, f6 43 (by omega)]
    · rw [e10, wr_ne (by omega), e9, wr_same, f8 43 (by omega)]
    · rw [e10, wr_same, f9 43 (by omega)]
  · rw [e10, wr_cell (by omega), e9, wr_cell (by omega), e8, cp_cell (by omega), e7, wr_cell (by omega), e6, cp_cell (by omega), e5, wr_cell (by omega), e4, wr_cell (by omega), e3, wr_cell (by omega), e2, cp_in (by omega), f1 44 (by omega)]
  · rw [e10, wr_cell (by omega), e9, wr_cell (by omega), e8, cp_cell (by omega), e7, wr_cell (by omega), e6, cp_in (by omega), f5 45 (by omega)]
  · rw [e10, wr_cell (by omega), e9, wr_cell (by omega), e8, cp_in (by omega), f7 46 (by omega)]
theorem kX9_copyOfr : Cl LX (d + 1) mX9_copyOf [.ref 43, .ref 100] M (fun r M2 => r = none ∧ (∀ c, c < 43 ∨ 46 < c → M2.1 c = M.1 c) ∧ (∀ j, j < 10 → j ≠ 1 → j ≠ 5 → j ≠ 7 → M2.1 43 j = M.1 100 j) ∧ (∀ i, i < 26 → M2.1 44 i = M.1 101 i) ∧ (∀ i, i < 360 → M2.1 45 i = M.1 102 i) ∧ ∀ i, i < 930 → M2.1 46 i = M.1 103 i) := by
  refine Cl_of rfl (Nat.le_of_ble_eq_true rfl) rfl (gX9_copyOfr_0 fun M1 e1 => ⟨⟨by decide, by decide, by decide, by decide, by decide⟩, fun M2 e2 M3 e3 M4 e4 M5 e5 => ⟨⟨by decide, by decide, by decide, by decide, by decide⟩, fun M6 e6 M7 e7 => ⟨⟨by decide, by decide, by decide, by decide, by decide⟩, fun M8 e8 M9 e9 M10 e10 => ⟨rfl, ?_⟩⟩⟩⟩)
  rw [c0, c26] at e2
  rw [c0, c360] at e6
  rw [c0, c930] at e8
  have f1 : ∀ c, c < 43 ∨ 46 < c → M1.1 c = M.1 c := fun c hc => by rw [e1, wr_cell (by omega)]
  have f2 : ∀ c, c < 43 ∨ 46 < c → M2.1 c = M.1 c := fun c hc => by rw [e2, cp_cell (by omega), f1 c hc]
  have f3 : ∀ c, c < 43 ∨ 46 < c → M3.1 c = M.1 c := fun c hc => by rw [e3, wr_cell (by omega), f2 c hc]
  have f4 : ∀ c, c < 43 ∨ 46 < c → M4.1 c = M.1 c := fun c hc => by rw [e4, wr_cell (by omega), f3 c hc]
  have f5 : ∀ c, c < 43 ∨ 46 < c → M5.1 c = M.1 c := fun c hc => by rw [e5, wr_cell (by omega), f4 c hc]
  have f6 : ∀ c, c < 43 ∨ 46 < c → M6.1 c = M.1 c := fun c hc => by rw [e6, cp_cell (by omega), f5 c hc]
  have f7 : ∀ c, c < 43 ∨ 46 < c → M7.1 c = M.1 c := fun c hc => by rw [e7, wr_cell (by omega), f6 c hc]
  have f8 : ∀ c, c < 43 ∨ 46 < c → M8.1 c = M.1 c := fun c hc => by rw [e8, cp_cell (by omega), f7 c hc]
  have f9 : ∀ c, c < 43 ∨ 46 < c → M9.1 c = M.1 c := fun c hc => by rw [e9, wr_cell (by omega), f8 c hc]
  have f10 : ∀ c, c < 43 ∨ 46 < c → M10.1 c = M.1 c := fun c hc => by rw [e10, wr_cell (by omega), f9 c hc]
  refine ⟨f10, fun j h1 h2 h3 h4 => ?_, fun i hi => ?_, fun i hi => ?_, fun i hi => ?_⟩
  · rcases (by omega : j = 0 ∨ j = 2 ∨ j = 3 ∨ j = 4 ∨ j = 6 ∨ j = 8 ∨ j = 9) with rfl | rfl | rfl | rfl | rfl | rfl | rfl
    · rw [e10, wr_ne (by omega), e9, wr_ne (by omega), e8, cp_cell (by omega), e7, wr_ne (by omega), e6, cp_cell (by omega), e5, wr_ne (by omega), e4, wr_ne (by omega), e3, wr_ne (by omega), e2, cp_cell (by omega), e1, wr_same]
    · rw [e10, wr_ne (by omega), e9, wr_ne (by omega), e8, cp_cell (by omega), e7, wr_ne (by omega), e6, cp_cell (by omega), e5, wr_ne (by omega), e4, wr_ne (by omega), e3, wr_same, f2 100 (by omega)]
    · rw [e10, wr_ne (by omega), e9, wr_ne (by omega), e8, cp_cell (by omega), e7, wr_ne (by omega), e6, cp_cell (by omega), e5, wr_ne (by omega), e4, wr_same, f3 100 (by omega)]
    · rw [e10, wr_ne (by omega), e9, wr_ne (by omega), e8, cp_cell (by omega), e7, wr_ne (by omega), e6, cp_cell (by omega), e5, wr_same, f4 100 (by omega)]
    · rw [e10, wr_ne (by omega), e9, wr_ne (by omega), e8, cp_cell (by omega), e7, wr_same, f6 100 (by omega)]
    · rw [e10, wr_ne (by omega), e9, wr_same, f8 100 (by omega)]
    · rw [e10, wr_same, f9 100 (by omega)]
  · rw [e10, wr_cell (by omega), e9, wr_cell (by omega), e8, cp_cell (by omega), e7, wr_cell (by omega), e6, cp_cell (by omega), e5, wr_cell (by omega), e4, wr_cell (by omega), e3, wr_cell (by omega), e2, cp_in (by omega), f1 101 (by omega)]
  · rw [e10, wr_cell (by omega), e9, wr_cell (by omega), e8, cp_cell (by omega), e7, wr_cell (by omega), e6, cp_in (by omega), f5 102 (by omega)]
  · rw [e10, wr_cell (by omega), e9, wr_cell (by omega), e8, cp_in (by omega), f7 103 (by omega)]
theorem kX3_copyOfi : Cl LX (d + 1) mX3_copyOf [.ref 104, .ref 47] M (fun r M2 => r = none ∧ (∀ c, c < 104 ∨ 116 < c → M2.1 c = M.1 c) ∧ (M2.1 104 2 = M.1 47 2 ∧ M2.1 104 3 = M.1 47 3 ∧ M2.1 104 5 = M.1 47 5 ∧ M2.1 104 8 = M.1 47 8 ∧ M2.1 104 11 = M.1 47 11) ∧ (∀ i, i < 26 → M2.1 105 i = M.1 48 i ∧ M2.1 106 i = M.1 49 i) ∧ (∀ i, i < 8 → M2.1 107 i = M.1 50 i) ∧ (∀ k, k < 5 → ∀ i, i < 9 → M2.1 (109 + k) i = M.1 (52 + k) i) ∧ (∀ i, i < 5 → M2.1 114 i = M.1 57 i) ∧ ∀ i, i < 8 → M2.1 115 i = M.1 58 i ∧ M2.1 116 i = M.1 59 i) := by
  refine Cl_of rfl (Nat.le_of_ble_eq_true rfl) rfl (gX3_copyOfi_0 ⟨⟨by decide, by decide, by decide, by decide, by decide⟩, fun M1 e1 => ⟨⟨by decide, by decide, by decide, by decide, by decide⟩, fun M2 e2 M3 e3 M4 e4 => ⟨⟨by decide, by decide, by decide, by decide, by decide⟩, fun M5 e5 M6 e6 => ?_⟩⟩⟩)
  rw [c0, c26] at e1 e2
  rw [c0, c8] at e5
  have f1 : ∀ c, c < 104 ∨ 116 < c → M1.1 c = M.1 c := fun c hc => by rw [e1, cp_cell (by omega)]
  have f2 : ∀ c, c < 104 ∨ 116 < c → M2.1 c = M.1 c := fun c hc => by rw [e2, cp_cell (by omega), f1 c hc]
  have f3 : ∀ c, c < 104 ∨ 116 < c → M3.1 c = M.1 c := fun c hc => by rw [e3, wr_cell (by omega), f2 c hc]
  have f4 : ∀ c, c < 104 ∨ 116 < c → M4.1 c = M.1 c := fun c hc => by rw [e4, wr_cell (by omega), f3 c hc]
  have f5 : ∀ c, c < 104 ∨ 116 < c → M5.1 c = M.1 c := fun c hc => by rw [e5, cp_cell (by omega), f4 c hc]
  have f6 : ∀ c, c < 104 ∨ 116 < c → M6.1 c = M.1 c := fun c hc => by rw [e6, wr_cell (by omega), f5 c hc]
  have g2 : M6.1 104 2 = M.1 47 2 := by rw [e6, wr_ne (by omega), e5, cp_cell (by omega), e4, wr_ne (by omega), e3, wr_same, f2 47 (by omega)]
  have g3 : M6.1 104 3 = M.1 47 3 := by rw [e6, wr_ne (by omega), e5, cp_cell (by omega), e4, wr_same, f3 47 (by omega)]
  have g5 : M6.1 104 5 = M.1 47 5 := by rw [e6, wr_same, f5 47 (by omega)]
  have a1 : ∀ i, i < 26 → M6.1 105 i = M.1 48 i := fun i hi => by rw [e6, wr_cell (by omega), e5, cp_cell (by omega), e4, wr_cell (by omega), e3, wr_cell (by omega), e2, cp_cell (by omega), e1, cp_in (by omega)]
  have a2 : ∀ i, i < 26 → M6.1 106 i = M.1 49 i := fun i hi => by rw [e6, wr_cell (by omega), e5, cp_cell (by omega), e4, wr_cell (by omega), e3, wr_cell (by omega), e2, cp_in (by omega), f1 49 (by omega)]
  have a3 : ∀ i, i < 8 → M6.1 107 i = M.1 50 i := fun i hi => by rw [e6, wr_cell (by omega), e5, cp_in (by omega), f4 50 (by omega)]
  have lp : ∀ k, k ≤ 5 → ∀ M7, (∀ c, c < 104 ∨ 116 < c → M7.1 c = M.1 c) → (∀ c, c < 109 → M7.1 c = M6.1 c) → (∀ j, j < k → ∀ i, i < 9 → M7.1 (109 + j) i = M.1 (52 + j) i) → Ev LX (d + 1) mX3_copyOf 71 [some (.ref 104), some (.ref 47), some (.int (nI k))] [] M7 (fun r M2 => r = none ∧ (∀ c, c < 104 ∨ 116 < c → M2.1 c = M.1 c) ∧ (M2.1 104 2 = M.1 47 2 ∧ M2.1 104 3 = M.1 47 3 ∧ M2.1 104 5 = M.1 47 5 ∧ M2.1 104 8 = M.1 47 8 ∧ M2.1 104 11 = M.1 47 11) ∧ (∀ i, i < 26 → M2.1 105 i = M.1 48 i ∧ M2.1 106 i = M.1 49 i) ∧ (∀ i, i < 8 → M2.1 107 i = M.1 50 i) ∧ (∀ k, k < 5 → ∀ i, i < 9 → M2.1 (109 + k) i = M.1 (52 + k) i) ∧ (∀ i, i < 5 → M2.1 114 i = M.1 57 i) ∧ ∀ i, i < 8 → M2.1 115 i = M.1 58 i ∧ M2.1 116 i = M.1 59 i) := by
    refine dn ?_ (fun k hk ih => ?_)
    · intro M7 f7 l7 r7
      refine gX3_copyOfi_71 ⟨fun _ => ⟨⟨by decide, by decide, by decide, by decide, by decide⟩, fun A1 e1 A2 e2 => ⟨⟨by decide, by decide, by decide, by decide, by decide⟩, fun A3 e3 => ⟨⟨by decide, by decide, by decide, by decide, by decide⟩, fun A4 e4 A5 e5 => ⟨rfl, ?_⟩⟩⟩⟩, fun z => absurd (by decide) z⟩
      rw [c0, c5] at e1
      rw [c0, c8] at e3 e4
      have h1 : ∀ c, c < 104 ∨ 116 < c → A1.1 c = M.1 c := fun c hc => by rw [e1, cp_cell (by omega), f7 c hc]
      have h2 : ∀ c, c < 104 ∨ 116 < c → A2.1 c = M.1 c := fun c hc => by rw [e2, wr_cell (by omega), h1 c hc]
      have h3 : ∀ c, c < 104 ∨ 116 < c → A3.1 c = M.1 c := fun c hc => by rw [e3, cp_cell (by omega), h2 c hc]
      have h4 : ∀ c, c < 104 ∨ 116 < c → A4.1 c = M.1 c := fun c hc => by rw [e4, cp_cell (by omega), h3 c hc]
      have h5 : ∀ c, c < 104 ∨ 116 < c → A5.1 c = M.1 c := fun c hc => by rw [e5, wr_cell (by omega), h4 c hc]
      refine ⟨h5, ⟨?_, ?_, ?_, ?_, ?_⟩, fun i hi => ⟨?_, ?_⟩, fun i hi => ?_, fun k hk i hi => ?_, fun i hi => ?_, fun i hi => ⟨?_, ?_⟩⟩
      · rw [e5, wr_ne (by omega), e4, cp_cell (by omega), e3, cp_cell (by omega), e2, wr_ne (by omega), e1, cp_cell (by omega), l7 104 (by omega)]; exact g2
      · rw [e5, wr_ne (by omega), e4, cp_cell (by omega), e3, cp_cell (by omega), e2, wr_ne (by omega), e1, cp_cell (by omega), l7 104 (by omega)]; exact g3
      · rw [e5, wr_ne (by omega), e4, cp_cell (by omega), e3, cp_cell (by omega), e2, wr_ne (by omega), e1, cp_cell (by omega), l7 104 (by omega)]; exact g5
      · rw [e5, wr_ne (by omega), e4, cp_cell (by omega), e3, cp_cell (by omega), e2, wr_same, h1 47 (by omega)]
      · rw [e5, wr_same, h4 47 (by omega)]
      · rw [e5, wr_cell (by omega), e4, cp_cell (by omega), e3, cp_cell (by omega), e2, wr_cell (by omega), e1, cp_cell (by omega), l7 105 (by omega)]; exact a1 i hi
      · rw [e5, wr_cell (by omega), e4, cp_cell (by omega), e3, cp_cell (by omega), e2, wr_cell (by omega), e1, cp_cell (by omega), l7 106 (by omega)]; exact a2 i hi
      · rw [e5, wr_cell (by omega), e4, cp_cell (by omega), e3, cp_cell (by omega), e2, wr_cell (by omega), e1, cp_cell (by omega), l7 107 (by omega)]; exact a3 i hi
      · rw [e5, wr_cell (by omega), e4, cp_cell (by omega), e3, cp_cell (by omega), e2, wr_cell (by omega), e1, cp_cell (by omega)]; exact r7 k hk i hi
      · rw [e5, wr_cell (by omega), e4, cp_cell (by omega), e3, cp_cell (by omega), e2, wr_cell (by omega), e1, cp_in (by omega), f7 57 (by omega)]
      · rw [e5, wr_cell (by omega), e4, cp_cell (by omega), e3, cp_in (by omega), h2 58 (by omega)]
      · rw [e5, wr_cell (by omega), e4, cp_in (by omega), h3 59 (by omega)]
    · intro M7 f7 l7 r7
      refine gX3_copyOfi_71 ⟨fun z => absurd z (nI_ge (b := 5) hk (by omega)), fun _ => ⟨vp_in_nI hk (by omega), vp_in_nI hk (by omega), ⟨by decide, by decide, by decide, by decide, by decide⟩, fun A1 e1 => ?_⟩⟩
      rw [c0, c9, nI_clamp (by omega)] at e1
      rw [nI_1]
      refine ih A1 (fun c hc => by rw [e1, cp_cell (by omega), f7 c hc]) (fun c hc => by rw [e1, cp_cell (by omega), l7 c hc]) (fun j hj i hi => ?_)
      by_cases z : j = k
      · rw [z, e1, cp_in hi, f7 _ (by omega)]
      · rw [e1, cp_cell (by omega)]; exact r7 j (by omega) i hi
  exact lp 0 (by omega) M6 f6 (fun _ _ => rfl) (fun j hj => absurd hj (by omega))
theorem kX3_copyOfr : Cl LX (d + 1) mX3_copyOf [.ref 47, .ref 104] M (fun r M2 => r = none ∧ (∀ c, c < 47 ∨ 59 < c → M2.1 c = M.1 c) ∧ (M2.1 47 2 = M.1 104 2 ∧ M2.1 47 3 = M.1 104 3 ∧ M2.1 47 5 = M.1 104 5 ∧ M2.1 47 8 = M.1 104 8 ∧ M2.1 47 11 = M.1 104 11) ∧ (∀ i, i < 26 → M2.1 48 i = M.1 105 i ∧ M2.1 49 i = M.1 106 i) ∧ (∀ i, i < 8 → M2.1 50 i = M.1 107 i) ∧ (∀ k, k < 5 → ∀ i, i < 9 → M2.1 (52 + k) i = M.1 (109 + k) i) ∧ (∀ i, i < 5 → M2.1 57 i = M.1 114 i) ∧ ∀ i, i < 8 → M2.1 58 i = M.1 115 i ∧ M2.1 59 i = M.1 116 i) := by
  refine Cl_of rfl (Nat.le_of_ble_eq_true rfl) rfl (gX3_copyOfr_0 ⟨⟨by decide, by decide, by decide, by decide, by decide⟩, fun M1 e1 => ⟨⟨by decide, by decide, by decide, by decide, by decide⟩, fun M2 e2 M3 e3 M4 e4 => ⟨⟨by decide, by decide, by decide, by decide, by decide⟩, fun M5 e5 M6 e6 => ?_⟩⟩⟩)
  rw [c0, c26] at e1 e2
  rw [c0, c8] at e5
  have f1 : ∀ c, c < 47 ∨ 59 < c → M1.1 c = M.1 c := fun c hc => by rw [e1, cp_cell (by omega)]
  have f2 : ∀ c, c < 47 ∨ 59 < c → M2.1 c = M.1 c := fun c hc => by rw [e2, cp_cell (by omega), f1 c hc]
  have f3 : ∀ c, c < 47 ∨ 59 < c → M3.1 c = M.1 c := fun c hc => by rw [e3, wr_cell (by omega), f2 c hc]
  have f4 : ∀ c, c < 47 ∨ 59 < c → M4.1 c = M.1 c := fun c hc => by rw [e4, wr_cell (by omega), f3 c hc]
  have f5 : ∀ c, c < 47 ∨ 59 < c → M5.1 c = M.1 c := fun c hc => by rw [e5, cp_cell (by omega), f4 c hc]
  have f6 : ∀ c, c < 47 ∨ 59 < c → M6.1 c = M.1 c := fun c hc => by rw [e6, wr_cell (by omega), f5 c hc]
  have g2 : M6.1 47 2 = M.1 104 2 := by rw [e6, wr_ne (by omega), e5, cp_cell (by omega), e4, wr_ne (by omega), e3, wr_same, f2 104 (by omega)]
  have g3 : M6.1 47 3 = M.1 104 3 := by rw [e6, wr_ne (by omega), e5, cp_cell (by omega), e4, wr_same, f3 104 (by omega)]
  have g5 : M6.1 47 5 = M.1 104 5 := by rw [e6, wr_same, f5 104 (by omega)]
  have a1 : ∀ i, i < 26 → M6.1 48 i = M.1 105 i := fun i hi => by rw [e6, wr_cell (by omega), e5, cp_cell (by omega), e4, wr_cell (by omega), e3, wr_cell (by omega), e2, cp_cell (by omega), e1, cp_in (by omega)]
  have a2 : ∀ i, i < 26 → M6.1 49 i = M.1 106 i := fun i hi => by rw [e6, wr_cell (by omega), e5, cp_cell (by omega), e4, wr_cell (by omega), e3, wr_cell (by omega), e2, cp_in (by omega), f1 106 (by omega)]
  have a3 : ∀ i, i < 8 → M6.1 50 i = M.1 107 i := fun i hi => by rw [e6, wr_cell (by omega), e5, cp_in (by omega), f4 107 (by omega)]
  have lp : ∀ k, k ≤ 5 → ∀ M7, (∀ c, c < 47 ∨ 59 < c → M7.1 c = M.1 c) → (∀ c, c < 52 → M7.1 c = M6.1 c) → (∀ j, j < k → ∀ i, i < 9 → M7.1 (52 + j) i = M.1 (109 + j) i) → Ev LX (d + 1) mX3_copyOf 71 [some (.ref 47), some (.ref 104), some (.int (nI k))] [] M7 (fun r M2 => r = none ∧ (∀ c, c < 47 ∨ 59 < c → M2.1 c = M.1 c) ∧ (M2.1 47 2 = M.1 104 2 ∧ M2.1 47 3 = M.1 104 3 ∧ M2.1 47 5 = M.1 104 5 ∧ M2.1 47 8 = M.1 104 8 ∧ M2.1 47 11 = M.1 104 11) ∧ (∀ i, i < 26 → M2.1 48 i = M.1 105 i ∧ M2.1 49 i = M.1 106 i) ∧ (∀ i, i < 8 → M2.1 50 i = M.1 107 i) ∧ (∀ k, k < 5 → ∀ i, i < 9 → M2.1 (52 + k) i = M.1 (109 + k) i) ∧ (∀ i, i < 5 → M2.1 57 i = M.1 114 i) ∧ ∀ i, i < 8 → M2.1 58 i = M.1 115 i ∧ M2.1 59 i = M.1 116 i) := by
    refine dn ?_ (fun k hk ih => ?_)
    · intro M7 f7 l7 r7
      refine gX3_copyOfr_71 ⟨fun _ => ⟨⟨by decide, by decide, by decide, by decide, by decide⟩, fun A1 e1 A2 e2 => ⟨⟨by decide, by decide, by decide, by decide, by decide⟩, fun A3 e3 => ⟨⟨by decide, by decide, by decide, by decide, by decide⟩, fun A4 e4 A5 e5 => ⟨rfl, ?_⟩⟩⟩⟩, fun z => absurd (by decide) z⟩
      rw [c0, c5] at e1
      rw [c0, c8] at e3 e4
      have h1 : ∀ c, c < 47 ∨ 59 < c → A1.1 c = M.1 c := fun c hc => by rw [e1, cp_cell (by omega), f7 c hc]
      have h2 : ∀ c, c < 47 ∨ 59 < c → A2.1 c = M.1 c := fun c hc => by rw [e2, wr_cell (by omega), h1 c hc]
      have h3 : ∀ c, c < 47 ∨ 59 < c → A3.1 c = M.1 c := fun c hc => by rw [e3, cp_cell (by omega), h2 c hc]
      have h4 : ∀ c, c < 47 ∨ 59 < c → A4.1 c = M.1 c := fun c hc => by rw [e4, cp_cell (by omega), h3 c hc]
      have h5 : ∀ c, c < 47 ∨ 59 < c → A5.1 c = M.1 c := fun c hc => by rw [e5, wr_cell (by omega), h4 c hc]
      refine ⟨h5, ⟨?_, ?_, ?_, ?_, ?_⟩, fun i hi => ⟨?_, ?_⟩, fun i hi => ?_, fun k hk i hi => ?_, fun i hi => ?_, fun i hi => ⟨?_, ?_⟩⟩
      · rw [e5, wr_ne (by omega), e4, cp_cell (by omega), e3, cp_cell (by omega), e2, wr_ne (by omega), e1, cp_cell (by omega), l7 47 (by omega)]; exact g2
      · rw [e5, wr_ne (by omega), e4, cp_cell (by omega), e3, cp_cell (by omega), e2, wr_ne (by omega), e1, cp_cell (by omega), l7 47 (by omega)]; exact g3
      · rw [e5, wr_ne (by omega), e4, cp_cell (by omega), e3, cp_cell (by omega), e2, wr_ne (by omega), e1, cp_cell (by omega), l7 47 (by omega)]; exact g5
      · rw [e5, wr_ne (by omega), e4, cp_cell (by omega), e3, cp_cell (by omega), e2, wr_same, h1 104 (by omega)]
      · rw [e5, wr_same, h4 104 (by omega)]
      · rw [e5, wr_cell (by omega), e4, cp_cell (by omega), e3, cp_cell (by omega), e2, wr_cell (by omega), e1, cp_cell (by omega), l7 48 (by omega)]; exact a1 i hi
      · rw [e5, wr_cell (by omega), e4, cp_cell (by omega), e3, cp_cell (by omega), e2, wr_cell (by omega), e1, cp_cell (by omega), l7 49 (by omega)]; exact a2 i hi
      · rw [e5, wr_cell (by omega), e4, cp_cell (by omega), e3, cp_cell (by omega), e2, wr_cell (by omega), e1, cp_cell (by omega), l7 50 (by omega)]; exact a3 i hi
      · rw [e5, wr_cell (by omega), e4, cp_cell (by omega), e3, cp_cell (by omega), e2, wr_cell (by omega), e1, cp_cell (by omega)]; exact r7 k hk i hi
      · rw [e5, wr_cell (by omega), e4, cp_cell (by omega), e3, cp_cell (by omega), e2, wr_cell (by omega), e1, cp_in (by omega), f7 114 (by omega)]
      · rw [e5, wr_cell (by omega), e4, cp_cell (by omega), e3, cp_in (by omega), h2 115 (by omega)]
      · rw [e5, wr_cell (by omega), e4, cp_in (by omega), h3 116 (by omega)]
    · intro M7 f7 l7 r7
      refine gX3_copyOfr_71 ⟨fun z => absurd z (nI_ge (b := 5) hk (by omega)), fun _ => ⟨vp_in_nI hk (by omega), vp_in_nI hk (by omega), ⟨by decide, by decide, by decide, by decide, by decide⟩, fun A1 e1 => ?_⟩⟩
      rw [c0, c9, nI_clamp (by omega)] at e1
      rw [nI_1]
      refine ih A1 (fun c hc => by rw [e1, cp_cell (by omega), f7 c hc]) (fun c hc => by rw [e1, cp_cell (by omega), l7 c hc]) (fun j hj i hi => ?_)
      by_cases z : j = k
      · rw [z, e1, cp_in hi, f7 _ (by omega)]
      · rw [e1, cp_cell (by omega)]; exact r7 j (by omega) i hi
  exact lp 0 (by omega) M6 f6 (fun _ _ => rfl) (fun j hj => absurd hj (by omega))
theorem kX11_copyi : Cl LM d mX11_copy [.ref 1, .ref 2] N (fun r N2 => r = none ∧ N2 = rowM N 2 (fun i => if i < 3315 then N.1 1 i else N.1 2 i)) := by
  refine Cl_of rfl (Nat.le_of_ble_eq_true rfl) rfl (gX11_copyi_0 ?_)
  have lp : ∀ k, k ≤ 3315 → Ev LM d mX11_copy 2 [some (.ref 1), some (.ref 2), some (.int (nI k))] [] (rowM N 2 (fun i => if i < k then N.1 1 i else N.1 2 i)) (fun r N2 => r = none ∧ N2 = rowM N 2 (fun i => if i < 3315 then N.1 1 i else N.1 2 i)) := by
    refine dn ?_ (fun k hk ih => ?_)
    · exact gX11_copyi_2 ⟨fun _ => ⟨rfl, rfl⟩, fun z => absurd (by decide) z⟩
    · refine gX11_copyi_2 ⟨fun z => absurd z (nI_ge (b := 3315) hk (by omega)), fun _ => ⟨vp_in_nI hk (by omega), vp_in_nI hk (by omega), fun M1 e1 => ?_⟩⟩
      rw [nI_clamp (by omega), rowM_w, rowM_n (by omega)] at e1
      have : upd (fun i => if i < k then N.1 1 i else N.1 2 i) k (N.1 1 k) = (fun i => if i < k + 1 then N.1 1 i else N.1 2 i) := by
        funext i
        by_cases z : i = k
        · rw [z, upd_eq, if_pos (by omega)]
        · rw [upd_ne z]
          by_cases y : i < k
          · rw [if_pos y, if_pos (by omega)]
          · rw [if_neg y, if_neg (by omega)]
      rw [this] at e1
      rw [nI_1, e1]; exact ih
  have := lp 0 (by omega)
  have e0 : (fun i => if i < 0 then N.1 1 i else N.1 2 i) = N.1 2 := funext fun i => if_neg (by omega)
  rw [e0, rowM_id] at this
  exact this
theorem kX11_copyr : Cl LM d mX11_copy [.ref 2, .ref 1] N (fun r N2 => r = none ∧ N2 = rowM N 1 (fun i => if i < 3315 then N.1 2 i else N.1 1 i)) := by
  refine Cl_of rfl (Nat.le_of_ble_eq_true rfl) rfl (gX11_copyr_0 ?_)
  have lp : ∀ k, k ≤ 3315 → Ev LM d mX11_copy 2 [some (.ref 2), some (.ref 1), some (.int (nI k))] [] (rowM N 1 (fun i => if i < k then N.1 2 i else N.1 1 i)) (fun r N2 => r = none ∧ N2 = rowM N 1 (fun i => if i < 3315 then N.1 2 i else N.1 1 i)) := by
    refine dn ?_ (fun k hk ih => ?_)
    · exact gX11_copyr_2 ⟨fun _ => ⟨rfl, rfl⟩, fun z => absurd (by decide) z⟩
    · refine gX11_copyr_2 ⟨fun z => absurd z (nI_ge (b := 3315) hk (by omega)), fun _ => ⟨vp_in_nI hk (by omega), vp_in_nI hk (by omega), fun M1 e1 => ?_⟩⟩
      rw [nI_clamp (by omega), rowM_w, rowM_n (by omega)] at e1
      have : upd (fun i => if i < k then N.1 2 i else N.1 1 i) k (N.1 2 k) = (fun i => if i < k + 1 then N.1 2 i else N.1 1 i) := by
        funext i
        by_cases z : i = k
        · rw [z, upd_eq, if_pos (by omega)]
        · rw [upd_ne z]
          by_cases y : i < k
          · rw [if_pos y, if_pos (by omega)]
          · rw [if_neg y, if_neg (by omega)]
      rw [this] at e1
      rw [nI_1, e1]; exact ih
  have := lp 0 (by omega)
  have e0 : (fun i => if i < 0 then N.1 2 i else N.1 1 i) = N.1 1 := funext fun i => if_neg (by omega)
  rw [e0, rowM_id] at this
  exact this
/-- the notes, copied -/
theorem nRel_cq {M2 : ev_Mem} {nc nc2 W : Nat} {a a2 : Nat → Int32} (hf : M2.1 nc2 2 = M.1 nc 2 ∧ M2.1 nc2 3 = M.1 nc 3 ∧ M2.1 nc2 5 = M.1 nc 5 ∧ M2.1 nc2 8 = M.1 nc 8 ∧ M2.1 nc2 11 = M.1 nc 11) (h1 : ∀ i, i < 26 → M2.1 (nc2 + 1) i = M.1 (nc + 1) i ∧ M2.1 (nc2 + 2) i = M.1 (nc + 2) i) (h3 : ∀ i, i < 8 → M2.1 (nc2 + 3) i = M.1 (nc + 3) i) (h5 : ∀ k, k < 5 → ∀ i, i < 9 → M2.1 (nc2 + 5 + k) i = M.1 (nc + 5 + k) i) (h10 : ∀ i, i < 5 → M2.1 (nc2 + 10) i = M.1 (nc + 10) i) (h11 : ∀ i, i < 8 → M2.1 (nc2 + 11) i = M.1 (nc + 11) i ∧ M2.1 (nc2 + 12) i = M.1 (nc + 12) i) (ha : ∀ i, i < 3315 → a2 i = a i) (h : nRel M nc W a) : nRel M2 nc2 W a2 := by
  obtain ⟨k1, ⟨T, k2, k3, k4, k5, k6⟩, ⟨p, k7, k8, k9, k10⟩, ⟨r, k11, k12, k13, k14⟩, h, k15, k16, k17, k18⟩ := h
  refine ⟨fun l hl => ?_, ⟨T, k2, by rw [hf.1]; exact k3, by rw [ha 2 (by omega)]; exact k4, by rw [hf.2.1, ha 3 (by omega)]; exact k5, by rw [ha 3 (by omega)]; exact k6⟩, ⟨p, k7, by rw [hf.2.2.1]; exact k8, by rw [ha 5 (by omega)]; exact k9, fun i hi => ?_⟩, ⟨r, k11, by rw [hf.2.2.2.1]; exact k12, by rw [ha 6 (by omega)]; exact k13, fun i hi => ?_⟩, h, k15, by rw [hf.2.2.2.2]; exact k16, by rw [ha 7 (by omega)]; exact k17, fun i hi => ?_⟩
  · rw [(h1 l hl).1, (h1 l hl).2, ha (399 + 2 * l) (by omega), ha (399 + 2 * l + 1) (by omega)]; exact k1 l hl
  · rw [h3 i (by omega), ha (451 + i) (by omega)]; exact k10 i hi
  · obtain ⟨q1, n, q2, q3, q4, q5⟩ := k14 i hi
    rw [h10 i (by omega), ha (459 + 10 * i) (by omega)]
    refine ⟨q1, n, q2, q3, q4, fun j hj => ?_⟩
    rw [h5 i (by omega) j (by omega), ha (459 + 10 * i + 1 + j) (by omega)]; exact q5 j hj
  · rw [(h11 i (by omega)).1, (h11 i (by omega)).2, ha (509 + 2 * i) (by omega), ha (509 + 2 * i + 1) (by omega)]; exact k18 i hi
theorem op_image (h : RX B M N) : OP 200 mX10_image mX11_image [] B M N := by
  obtain ⟨W, S, T, Wk, Sk, Tk, h1, h2, h3, h4, h5, h6⟩ := id h
  obtain ⟨⟨⟨a1, a2, a3⟩, ⟨b1, b2, b3⟩, mR, nR⟩, e1, e2, e3, e4⟩ := h1
  have day3 : M.1 43 3 = N.1 1 8 := (kq_k (RX_mr h)).2.2.2.1.1
  refine ⟨some (.int (N.1 1 8)), vok _, rowM N 2 (fun i => if i < 3315 then N.1 1 i else N.1 2 i), ?_, ?_⟩
  · refine Cl_of rfl (Nat.le_of_ble_eq_true rfl) rfl (gX10_image_0 (d := 199) ⟨_, kX9_copyOfi (d := 198), fun zr M1 q1 => ?_⟩)
    rw [q1.1]
    refine gX10_image_11 (d := 199) ⟨_, kX3_copyOfi (d := 198), fun zr M2 q2 => ?_⟩
    rw [q2.1]
    refine gX10_image_22 fun M3 f3 M4 f4 => ?_
    obtain ⟨-, c1, m1, u1, R1, P1⟩ := q1
    obtain ⟨-, c2, n1, n2, n3, n4, n5, n6⟩ := q2
    have c4 : ∀ c, c ≠ 0 → M4.1 c = M2.1 c := fun c hc => by rw [f4, wr_cell hc, f3, wr_cell hc]
    have cc : ∀ c, c ≠ 0 → c < 100 ∨ c = 117 → M4.1 c = M.1 c := fun c hc h => by rw [c4 c hc, c2 c (by omega), c1 c (by omega)]
    have c0 : ∀ j, j ≠ 16 → j ≠ 17 → M4.1 0 j = M.1 0 j := fun j j1 j2 => by rw [f4, wr_ne (by omega), f3, wr_ne (by omega), c2 0 (by omega), c1 0 (by omega)]
    have ai : ∀ i, i < 3315 → (rowM N 2 (fun i => if i < 3315 then N.1 1 i else N.1 2 i)).1 2 i = N.1 1 i := fun i hi => by rw [rowM_s, if_pos hi]
    have w16 : M4.1 0 16 = nI W := by rw [f4, wr_ne (by omega), f3, wr_same, c2 3 (by omega), c1 3 (by omega), e1]
    have w17 : M4.1 0 17 = nI S := by rw [f4, wr_same, f3, wr_cell (by omega), c2 3 (by omega), c1 3 (by omega), e2]
    refine ⟨by rw [cc 43 (by omega) (by omega), day3], RX_up (B := B) (by omega) ⟨W, S, T, W, S, T, ⟨?_, by rw [cc 3 (by omega) (by omega)]; exact e1, by rw [cc 3 (by omega) (by omega)]; exact e2, by rw [rowM_n (by omega)]; exact e3, e4⟩, ⟨⟨⟨a1, by rw [ai 0 (by omega)]; exact a2, fun w hw => ?_⟩, ⟨b1, by rw [ai 1 (by omega)]; exact b2, fun s hs => ?_⟩, ?_, ?_⟩, w16, w17, by rw [ai 2 (by omega)]; exact e3⟩, ⟨Nat.le_refl _, Nat.le_refl _, Nat.le_refl _⟩, fun t ht => txtR_cg (fun i _ _ => (cc i (by omega) (by omega)).symm) (rowM_n (by omega)).symm (h4 t ht), ?_, ?_⟩⟩
    · rw [rowM_n (by omega)]
      refine ⟨⟨a1, a2, fun w hw => wRel_cg (by omega) (fun k _ _ => (cc k (by omega) (by omega)).symm) (fun _ _ _ => rfl) (a3 w hw)⟩, ⟨b1, b2, fun s hs => sRel_cg (by omega) (fun k _ _ => (cc k (by omega) (by omega)).symm) (fun _ _ _ => rfl) (b3 s hs)⟩, mRel_cg (fun k _ _ => (cc k (by omega) (by omega)).symm) rfl (fun _ _ _ => rfl) (fun _ _ _ => rfl) mR, nRel_cg (Nat.le_refl _) (fun k _ _ => (cc k (by omega) (by omega)).symm) rfl rfl (fun _ _ _ => rfl) (fun _ _ _ => rfl) nR⟩
    · exact wRel_cg (by omega) (fun k _ _ => (cc k (by omega) (by omega)).symm) (fun i _ _ => (ai i (by omega)).symm) (a3 w hw)
    · exact sRel_cg (by omega) (fun k _ _ => (cc k (by omega) (by omega)).symm) (fun i _ _ => (ai i (by omega)).symm) (b3 s hs)
    · refine mRq_to (q := 2) (Nat.le_refl _) (mq_cg (mRq_of mR) (fun j j1 j2 j3 j4 => ?_) (fun i hi => ?_) (fun i hi => ?_) (fun i hi => ?_) ai)
      · rw [c4 100 (by omega), c2 100 (by omega)]; exact m1 j j1 j2 j3 j4
      · rw [c4 101 (by omega), c2 101 (by omega)]; exact u1 i hi
      · rw [c4 102 (by omega), c2 102 (by omega)]; exact R1 i hi
      · rw [c4 103 (by omega), c2 103 (by omega)]; exact P1 i hi
    · have s1 : ∀ c, 47 ≤ c → c < 60 → M1.1 c = M.1 c := fun c q1 q2 => c1 c (by omega)
      refine nRel_cq (nc := 47) (nc2 := 104) ?_ (fun i hi => ?_) (fun i hi => ?_) (fun k hk i hi => ?_) (fun i hi => ?_) (fun i hi => ?_) ai nR
      · rw [c4 104 (by omega), ← s1 47 (by omega) (by omega)]; exact n1
      · rw [c4 _ (by omega), c4 _ (by omega), ← s1 (47 + 1) (by omega) (by omega), ← s1 (47 + 2) (by omega) (by omega)]; exact n2 i hi
      · rw [c4 _ (by omega), ← s1 (47 + 3) (by omega) (by omega)]; exact n3 i hi
      · rw [c4 _ (by omega), ← s1 (47 + 5 + k) (by omega) (by omega)]; exact n4 k hk i hi
      · rw [c4 _ (by omega), ← s1 (47 + 10) (by omega) (by omega)]; exact n5 i hi
      · rw [c4 _ (by omega), c4 _ (by omega), ← s1 (47 + 11) (by omega) (by omega), ← s1 (47 + 12) (by omega) (by omega)]; exact n6 i hi
    · obtain ⟨n, t1, t2, t3, t4⟩ := h5
      exact ⟨n, t1, by rw [cc 1 (by omega) (by omega)]; exact t2, by rw [rowM_n (by omega)]; exact t3, by rw [cc 2 (by omega) (by omega), rowM_n (by omega)]; exact t4⟩
    · unfold fRel at h6 ⊢
      rw [cc 117 (by omega) (by omega), cc 81 (by omega) (by omega), rowM_n (by omega), rowM_n (by omega)]
      exact h6
  · refine Cl_of rfl (Nat.le_of_ble_eq_true rfl) rfl (gX11_image_0 (d := 199) ⟨_, kX11_copyi (d := 199), fun zr N2 q => ?_⟩)
    rw [q.1]
    refine gX11_image_11 ⟨by rw [q.2, rowM_n (by omega)], by rw [q.2]; exact pe.rf⟩
theorem op_restore (h : RX B M N) : OP 200 mX10_restore mX11_restore [] B M N := by
  obtain ⟨W, S, T, Wk, Sk, Tk, h1, h2, h3, h4, h5, h6⟩ := id h
  obtain ⟨⟨⟨a1, a2, a3⟩, ⟨b1, b2, b3⟩, mR, nR⟩, e1, e2, e3⟩ := h2
  have day3 : M.1 100 3 = N.1 2 8 := (kq_k (mRq_of mR)).2.2.2.1.1
  have T4 : Tk ≤ 4 := by have := h1.2.2.2.2; omega
  refine ⟨some (.int (N.1 2 8)), vok _, rowM N 1 (fun i => if i < 3315 then N.1 2 i else N.1 1 i), ?_, ?_⟩
  · refine Cl_of rfl (Nat.le_of_ble_eq_true rfl) rfl (gX10_restore_0 (d := 199) ⟨_, kX9_copyOfr (d := 198), fun zr M1 q1 => ?_⟩)
    rw [q1.1]
    refine gX10_restore_11 (d := 199) ⟨_, kX3_copyOfr (d := 198), fun zr M2 q2 => ?_⟩
    rw [q2.1]
    refine gX10_restore_22 fun M3 f3 M4 f4 => ?_
    obtain ⟨-, c1, m1, u1, R1, P1⟩ := q1
    obtain ⟨-, c2, n1, n2, n3, n4, n5, n6⟩ := q2
    have c4 : ∀ c, c ≠ 3 → M4.1 c = M2.1 c := fun c hc => by rw [f4, wr_cell hc, f3, wr_cell hc]
    have cc : ∀ c, c ≠ 3 → c < 43 ∨ 60 ≤ c → M4.1 c = M.1 c := fun c hc h => by rw [c4 c hc, c2 c (by omega), c1 c (by omega)]
    have ai : ∀ i, i < 3315 → (rowM N 1 (fun i => if i < 3315 then N.1 2 i else N.1 1 i)).1 1 i = N.1 2 i := fun i hi => by rw [rowM_s, if_pos hi]
    have w5 : M4.1 3 5 = nI Wk := by rw [f4, wr_ne (by omega), f3, wr_same, c2 0 (by omega), c1 0 (by omega), e1]
    have w8 : M4.1 3 8 = nI Sk := by rw [f4, wr_same, f3, wr_cell (by omega), c2 0 (by omega), c1 0 (by omega), e2]
    have d3 : M4.1 43 3 = N.1 2 8 := by rw [c4 43 (by omega), c2 43 (by omega), m1 3 (by omega) (by omega) (by omega) (by omega), day3]
    refine ⟨by rw [d3], RX_up (B := B) (by omega) ⟨Wk, Sk, Tk, Wk, Sk, Tk, ⟨⟨⟨a1, by rw [ai 0 (by omega)]; exact a2, fun w hw => ?_⟩, ⟨b1, by rw [ai 1 (by omega)]; exact b2, fun s hs => ?_⟩, ?_, ?_⟩, w5, w8, by rw [ai 2 (by omega)]; exact e3, T4⟩, ⟨?_, by rw [cc 0 (by omega) (by omega)]; exact e1, by rw [cc 0 (by omega) (by omega)]; exact e2, by rw [rowM_n (by omega)]; exact e3⟩, ⟨Nat.le_refl _, Nat.le_refl _, Nat.le_refl _⟩, fun t ht => txtR_cg (fun i _ _ => (cc i (by omega) (by omega)).symm) (rowM_n (by omega)).symm (h4 t (by omega)), ?_, ?_⟩⟩
    · exact wRel_cg (by omega) (fun k _ _ => (cc k (by omega) (by omega)).symm) (fun i _ _ => (ai i (by omega)).symm) (a3 w hw)
    · exact sRel_cg (by omega) (fun k _ _ => (cc k (by omega) (by omega)).symm) (fun i _ _ => (ai i (by omega)).symm) (b3 s hs)
    · refine mRq_to (q := 2) (Nat.le_refl _) (mq_cg (mRq_of mR) (fun j j1 j2 j3 j4 => ?_) (fun i hi => ?_) (fun i hi => ?_) (fun i hi => ?_) ai)
      · rw [c4 43 (by omega), c2 43 (by omega)]; exact m1 j j1 j2 j3 j4
      · rw [c4 44 (by omega), c2 44 (by omega)]; exact u1 i hi
      · rw [c4 45 (by omega), c2 45 (by omega)]; exact R1 i hi
      · rw [c4 46 (by omega), c2 46 (by omega)]; exact P1 i hi
    · have s1 : ∀ c, 104 ≤ c → c < 117 → M1.1 c = M.1 c := fun c q1 q2 => c1 c (by omega)
      refine nRel_cq (nc := 104) (nc2 := 47) ?_ (fun i hi => ?_) (fun i hi => ?_) (fun k hk i hi => ?_) (fun i hi => ?_) (fun i hi => ?_) ai nR
      · rw [c4 47 (by omega), ← s1 104 (by omega) (by omega)]; exact n1
      · rw [c4 _ (by omega), c4 _ (by omega), ← s1 (104 + 1) (by omega) (by omega), ← s1 (104 + 2) (by omega) (by omega)]; exact n2 i hi
      · rw [c4 _ (by omega), ← s1 (104 + 3) (by omega) (by omega)]; exact n3 i hi
      · rw [c4 _ (by omega), ← s1 (104 + 5 + k) (by omega) (by omega)]; exact n4 k hk i hi
      · rw [c4 _ (by omega), ← s1 (104 + 10) (by omega) (by omega)]; exact n5 i hi
      · rw [c4 _ (by omega), c4 _ (by omega), ← s1 (104 + 11) (by omega) (by omega), ← s1 (104 + 12) (by omega) (by omega)]; exact n6 i hi
    · rw [rowM_n (by omega)]
      refine ⟨⟨a1, a2, fun w hw => wRel_cg (by omega) (fun k _ _ => (cc k (by omega) (by omega)).symm) (fun _ _ _ => rfl) (a3 w hw)⟩, ⟨b1, b2, fun s hs => sRel_cg (by omega) (fun k _ _ => (cc k (by omega) (by omega)).symm) (fun _ _ _ => rfl) (b3 s hs)⟩, mRel_cg (fun k _ _ => (cc k (by omega) (by omega)).symm) rfl (fun _ _ _ => rfl) (fun _ _ _ => rfl) mR, nRel_cg (Nat.le_refl _) (fun k _ _ => (cc k (by omega) (by omega)).symm) rfl rfl (fun _ _ _ => rfl) (fun _ _ _ => rfl) nR⟩
    · obtain ⟨n, t1, t2, t3, t4⟩ := h5
      exact ⟨n, t1, by rw [cc 1 (by omega) (by omega)]; exact t2, by rw [rowM_n (by omega)]; exact t3, by rw [cc 2 (by omega) (by omega), rowM_n (by omega)]; exact t4⟩
    · unfold fRel at h6 ⊢
      rw [cc 117 (by omega) (by omega), cc 81 (by omega) (by omega), rowM_n (by omega), rowM_n (by omega)]
      exact h6
  · refine Cl_of rfl (Nat.le_of_ble_eq_true rfl) rfl (gX11_restore_0 (d := 199) ⟨_, kX11_copyr (d := 199), fun zr N2 q => ?_⟩)
    rw [q.1]
    refine gX11_restore_11 ⟨by rw [q.2, rowM_s, if_pos (by omega)], by rw [q.2]; exact pe.rf⟩
end
