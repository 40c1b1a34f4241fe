/-! texts as constants: their lengths and letters -/
section
variable {L : List ev_C} {d : Nat} {y : ev_Y} {pc : Nat} {ls : List (Option Value)} {st : List Value} {M : ev_Mem} {Q : Option Value → ev_Mem → Prop}
theorem ev_nret {x : Int32} {ty : FieldType} (hd : decode y.2.1 pc = .ok (.ireturn, 1)) (hr : y.2.2.2 = some ty) (hn : narrow ty (.int x) = .int x) (hq : Q (some (.int x)) M) : Ev L d y pc ls [.int x] M Q := fun p l e R s m args below meth c H locs D ad ids lsA X hl => W.zret (v := x) X.1 X.2.1 (X.2.2.1.trans hr) hn (fun t ht hW => ⟨⟨some (.int x), M, rfl, hq, by rw [ht]; exact X.2.2.2.2.2.2.2.2.2.1⟩, X.2.2.2.2.2.2.2.2.2.2.2.1.F ht⟩) X.2.2.2.2.2.2.2.2.2.2.2.1.2.2 hd (hlocks := X.2.2.2.2.2.2.1)
theorem ev_i2c {x v : Int32} (hd : decode y.2.1 pc = .ok (.i2c, 1)) (hv : (x.toUInt32 % 65536).toInt32 = v) (k : Ev L d y (pc + 1) ls (.int v :: st) M Q) : Ev L d y pc ls (.int x :: st) M Q := fun p l e R s m args below meth c H locs D ad ids lsA X hl => lv_i2c X.1 X.2.1 hd hv (k p l e R s m args below meth c H locs D ad ids lsA X hl)
theorem ev_sgV {i : Nat} (hd : decode y.2.1 pc = .ok (.getfield 9, 3)) (hy : y.1.cls = "java/lang/String") (hi : i < 15) (kk : Ev L d y (pc + 3) ls (.ref (1030 + i) :: st) M Q) : Ev L d y pc ls (.ref (1010 + i) :: st) M Q := by
  intro p l e R s m args below meth c H locs D ad ids lsA X hl
  have X0 := X
  obtain ⟨hx, hb, hr, hml, hown, hts, hlk, ⟨hr1, hr2⟩, hK, hP, hJ, hS, hSt⟩ := X
  rw [hy] at hown
  exact vk_getf (own := "java/lang/String") (ref := "java/lang/String") hx hb (hSt.2.2.2.2.1.1 i hi).2.2.1 hS hown (hts _ (ev_t9 36 rfl rfl)) (fun _ h => h) hd (kk p l e R s m args below meth c H locs D ad ids lsA X0 hl)
theorem ev_sgC {i : Nat} (hd : decode y.2.1 pc = .ok (.getfield 15, 3)) (hy : y.1.cls = "java/lang/String") (hi : i < 15) (kk : Ev L d y (pc + 3) ls (.int 0 :: st) M Q) : Ev L d y pc ls (.ref (1010 + i) :: st) M Q := by
  intro p l e R s m args below meth c H locs D ad ids lsA X hl
  have X0 := X
  obtain ⟨hx, hb, hr, hml, hown, hts, hlk, ⟨hr1, hr2⟩, hK, hP, hJ, hS, hSt⟩ := X
  rw [hy] at hown
  exact vk_getf (own := "java/lang/String") (ref := "java/lang/String") hx hb (hSt.2.2.2.2.1.1 i hi).2.1 hS hown (hts _ (ev_t9 37 rfl rfl)) (fun _ h => h) hd (kk p l e R s m args below meth c H locs D ad ids lsA X0 hl)
theorem ev_gsC (hd : decode y.2.1 pc = .ok (.getstatic 38, 3)) (hy : y.1.cls = "java/lang/String") (kk : Ev L d y (pc + 3) ls (.int 1 :: st) M Q) : Ev L d y pc ls st M Q := by
  intro p l e R s m args below meth c H locs D ad ids lsA X hl
  have X0 := X
  obtain ⟨hx, hb, hr, hml, hown, hts, hlk, ⟨hr1, hr2⟩, hK, hP, hJ, hS, hSt⟩ := X
  rw [hy] at hown
  exact va_gets (own := "java/lang/String") (ref := "java/lang/String") hx hb hSt.2.2.2.2.2.1 hS hown (hts _ (ev_t3 27 rfl rfl)) (fun _ h => h) hd (kk p l e R s m args below meth c H locs D ad ids lsA X0 hl)
def ev_fm (v : Value) : Prop := v = .null ∨ v = .ref 1002
theorem ev_gsF (hd : decode y.2.1 pc = .ok (.getstatic 1053, 3)) (hy : y.1.cls = "java/lang/String") (kk : ∀ v, ev_fm v → Ev L d y (pc + 3) ls (v :: st) M Q) : Ev L d y pc ls st M Q := by
  intro p l e R s m args below meth c H locs D ad ids lsA X hl
  have X0 := X
  obtain ⟨hx, hb, hr, hml, hown, hts, hlk, ⟨hr1, hr2⟩, hK, hP, hJ, hS, hSt⟩ := X
  rw [hy] at hown
  rcases hSt.2.2.2.2.2.2 with hF | hF
  · exact va_gets (own := "java/lang/String") (ref := "jdk/internal/util/Preconditions") hx hb hF hS hown (hts _ (ev_t3 43 rfl rfl)) (fun _ h => h) hd (kk .null (Or.inl rfl) p l e R s m args below meth c H locs D ad ids lsA X0 hl)
  · exact va_gets (own := "java/lang/String") (ref := "jdk/internal/util/Preconditions") hx hb hF hS hown (hts _ (ev_t3 43 rfl rfl)) (fun _ h => h) hd (kk (.ref 1002) (Or.inr rfl) p l e R s m args below meth c H locs D ad ids lsA X0 hl)
theorem ev_sbl {i : Nat} {x : Int32} (hd : decode y.2.1 pc = .ok (.baload, 1)) (hi : i < 15) (hx2 : vp_in x (ev_lens.getD i 0)) (kk : Ev L d y (pc + 1) ls (.int ((ev_byt.getD i []).getD x.toNatClampNeg 0) :: st) M Q) : Ev L d y pc ls (.int x :: .ref (1030 + i) :: st) M Q := by
  intro p l e R s m args below meth c H locs D ad ids lsA X hl
  have X0 := X
  obtain ⟨hx, hb, hr, hml, hown, hts, hlk, ⟨hr1, hr2⟩, hK, hP, hJ, hS, hSt⟩ := X
  exact va_tb hx hb (hSt.2.2.2.2.1.1 i hi).2.2.2 hS hx2 rfl hd (kk p l e R s m args below meth c H locs D ad ids lsA X0 hl)
theorem ev_sln {i : Nat} (hd : decode y.2.1 pc = .ok (.arraylength, 1)) (hi : i < 15) (kk : Ev L d y (pc + 1) ls (.int (nI (ev_lens.getD i 0)) :: st) M Q) : Ev L d y pc ls (.ref (1030 + i) :: st) M Q := by
  intro p l e R s m args below meth c H locs D ad ids lsA X hl
  have X0 := X
  obtain ⟨hx, hb, hr, hml, hown, hts, hlk, ⟨hr1, hr2⟩, hK, hP, hJ, hS, hSt⟩ := X
  exact va_tlen hx hb (hSt.2.2.2.2.1.1 i hi).2.2.2 hS rfl hd (kk p l e R s m args below meth c H locs D ad ids lsA X0 hl)
theorem ev_callVS {Q2 : Option Value → ev_Mem → Prop} {idx n i : Nat} {z : ev_Y} (as : List Value) (hd : decode y.2.1 pc = .ok (.invokevirtual idx, 3)) (hw : ev_LV y.1.cls idx z n) (hi : i < 15) (hC : z.1.cls = "java/lang/String") (hn : as.length = n) (hst : (st.map fun v => v.category).sum ≤ 8) (hc : Cl L d z (.ref (1010 + i) :: as) M Q2) (kk : ∀ (r : Option Value) (M' : ev_Mem), Q2 r M' → Ev L (d + 1) y (pc + 3) ls (r.toList ++ st) M' Q) : Ev L (d + 1) y pc ls (as.reverse ++ .ref (1010 + i) :: st) M Q := by
  intro p l e R s m args below meth c H locs D ad ids lsA X hl
  have X0 := X
  obtain ⟨hx, hb, hr, hml, hown, hts, hlk, ⟨hr1, hr2⟩, hK, hP, hJ, hS, hSt⟩ := X
  obtain ⟨⟨w1, w2, w3, w4⟩, w5, w6, w7⟩ := hw
  have cb := callB_of (R := R) (rm := ev_rm d) (own := y.1.cls) (index := idx) (mc := 0) (ms := 0) n hts (ev_good z w2) rfl rfl rfl (hts _ w1) (hts _ w5) w3 ⟨by show d + 1 ≤ _; omega, by show _ + 64 * d ≤ _; omega⟩
  refine ev_back X0 hl (va_runV (As := as.map (ev_cv ad)) (rest := st.map (ev_cv ad)) (b := ad (1010 + i)) (C := z.1.cls) ⟨hx, hb, hml, hown, hts⟩ (hc l D ad ids) ⟨cb, hts _ w6, hts _ w7⟩ ⟨ev_blind, by rw [hC]; exact vk_recv (i := i) (adK := fun i => ad (1010 + i)) hSt.2.2.2.2.1 hi hS, fun U hU hW => ⟨rfl, by rw [hU]; exact hP, va_K.moved hW.alike hK, hJ, ev_Sgo hW hU hS hSt⟩⟩ rfl (by rw [List.length_map]; exact hn) hl.1 (by show List.map _ _ = _; rw [List.map_append, List.map_reverse]; rfl) (ev_room hst) hd ⟨Nat.zero_le _, Nat.zero_le _⟩) kk
end
theorem dJ0_length_8abf5_0 : decode cJ0_length_8abf5 0 = .ok (.aload_n 0, 1) := by decide +kernel
theorem dJ0_length_8abf5_1 : decode cJ0_length_8abf5 1 = .ok (.getfield 9, 3) := by decide +kernel
theorem dJ0_length_8abf5_4 : decode cJ0_length_8abf5 4 = .ok (.arraylength, 1) := by decide +kernel
theorem dJ0_length_8abf5_5 : decode cJ0_length_8abf5 5 = .ok (.aload_n 0, 1) := by decide +kernel
theorem dJ0_length_8abf5_6 : decode cJ0_length_8abf5 6 = .ok (.invokevirtual 335, 3) := by decide +kernel
theorem dJ0_length_8abf5_9 : decode cJ0_length_8abf5 9 = .ok (.ishr, 1) := by decide +kernel
theorem dJ0_length_8abf5_10 : decode cJ0_length_8abf5 10 = .ok (.ireturn, 1) := by decide +kernel
theorem dJ0_charAt_5068e_0 : decode cJ0_charAt_5068e 0 = .ok (.aload_n 0, 1) := by decide +kernel
theorem dJ0_charAt_5068e_1 : decode cJ0_charAt_5068e 1 = .ok (.invokevirtual 492, 3) := by decide +kernel
theorem dJ0_charAt_5068e_4 : decode cJ0_charAt_5068e 4 = .ok (.ifCond .eq 12, 3) := by decide +kernel
theorem dJ0_charAt_5068e_7 : decode cJ0_charAt_5068e 7 = .ok (.aload_n 0, 1) := by decide +kernel
theorem dJ0_charAt_5068e_8 : decode cJ0_charAt_5068e 8 = .ok (.getfield 9, 3) := by decide +kernel
theorem dJ0_charAt_5068e_11 : decode cJ0_charAt_5068e 11 = .ok (.iload_n 1, 1) := by decide +kernel
theorem dJ0_charAt_5068e_12 : decode cJ0_charAt_5068e 12 = .ok (.invokestatic 495, 3) := by decide +kernel
theorem dJ0_charAt_5068e_15 : decode cJ0_charAt_5068e 15 = .ok (.ireturn, 1) := by decide +kernel
theorem dJ0_charAt_5068e_16 : decode cJ0_charAt_5068e 16 = .ok (.aload_n 0, 1) := by decide +kernel
theorem dJ0_charAt_5068e_17 : decode cJ0_charAt_5068e 17 = .ok (.getfield 9, 3) := by decide +kernel
theorem dJ0_charAt_5068e_20 : decode cJ0_charAt_5068e 20 = .ok (.iload_n 1, 1) := by decide +kernel
theorem dJ0_charAt_5068e_21 : decode cJ0_charAt_5068e 21 = .ok (.invokestatic 498, 3) := by decide +kernel
theorem dJ0_charAt_5068e_24 : decode cJ0_charAt_5068e 24 = .ok (.ireturn, 1) := by decide +kernel
theorem dJ0_coder_7d493_0 : decode cJ0_coder_7d493 0 = .ok (.getstatic 38, 3) := by decide +kernel
theorem dJ0_coder_7d493_3 : decode cJ0_coder_7d493 3 = .ok (.ifCond .eq 10, 3) := by decide +kernel
theorem dJ0_coder_7d493_6 : decode cJ0_coder_7d493 6 = .ok (.aload_n 0, 1) := by decide +kernel
theorem dJ0_coder_7d493_7 : decode cJ0_coder_7d493 7 = .ok (.getfield 15, 3) := by decide +kernel
theorem dJ0_coder_7d493_10 : decode cJ0_coder_7d493 10 = .ok (.goto 4, 3) := by decide +kernel
theorem dJ0_coder_7d493_13 : decode cJ0_coder_7d493 13 = .ok (.iconst 1, 1) := by decide +kernel
theorem dJ0_coder_7d493_14 : decode cJ0_coder_7d493 14 = .ok (.ireturn, 1) := by decide +kernel
theorem dJ0_isLatin1_aae02_0 : decode cJ0_isLatin1_aae02 0 = .ok (.getstatic 38, 3) := by decide +kernel
theorem dJ0_isLatin1_aae02_3 : decode cJ0_isLatin1_aae02 3 = .ok (.ifCond .eq 14, 3) := by decide +kernel
theorem dJ0_isLatin1_aae02_6 : decode cJ0_isLatin1_aae02 6 = .ok (.aload_n 0, 1) := by decide +kernel
theorem dJ0_isLatin1_aae02_7 : decode cJ0_isLatin1_aae02 7 = .ok (.getfield 15, 3) := by decide +kernel
theorem dJ0_isLatin1_aae02_10 : decode cJ0_isLatin1_aae02 10 = .ok (.ifCond .ne 7, 3) := by decide +kernel
theorem dJ0_isLatin1_aae02_13 : decode cJ0_isLatin1_aae02 13 = .ok (.iconst 1, 1) := by decide +kernel
theorem dJ0_isLatin1_aae02_14 : decode cJ0_isLatin1_aae02 14 = .ok (.goto 4, 3) := by decide +kernel
theorem dJ0_isLatin1_aae02_17 : decode cJ0_isLatin1_aae02 17 = .ok (.iconst 0, 1) := by decide +kernel
theorem dJ0_isLatin1_aae02_18 : decode cJ0_isLatin1_aae02 18 = .ok (.ireturn, 1) := by decide +kernel
theorem dJ1_charAt_3b067_0 : decode cJ1_charAt_3b067 0 = .ok (.iload_n 1, 1) := by decide +kernel
theorem dJ1_charAt_3b067_1 : decode cJ1_charAt_3b067 1 = .ok (.aload_n 0, 1) := by decide +kernel
theorem dJ1_charAt_3b067_2 : decode cJ1_charAt_3b067 2 = .ok (.arraylength, 1) := by decide +kernel
theorem dJ1_charAt_3b067_3 : decode cJ1_charAt_3b067 3 = .ok (.invokestatic 9, 3) := by decide +kernel
theorem dJ1_charAt_3b067_6 : decode cJ1_charAt_3b067 6 = .ok (.aload_n 0, 1) := by decide +kernel
theorem dJ1_charAt_3b067_7 : decode cJ1_charAt_3b067 7 = .ok (.iload_n 1, 1) := by decide +kernel
theorem dJ1_charAt_3b067_8 : decode cJ1_charAt_3b067 8 = .ok (.baload, 1) := by decide +kernel
theorem dJ1_charAt_3b067_9 : decode cJ1_charAt_3b067 9 = .ok (.sipush 255, 3) := by decide +kernel
theorem dJ1_charAt_3b067_12 : decode cJ1_charAt_3b067 12 = .ok (.iand, 1) := by decide +kernel
theorem dJ1_charAt_3b067_13 : decode cJ1_charAt_3b067 13 = .ok (.i2c, 1) := by decide +kernel
theorem dJ1_charAt_3b067_14 : decode cJ1_charAt_3b067 14 = .ok (.ireturn, 1) := by decide +kernel
theorem dJ0_checkIndex_df160_0 : decode cJ0_checkIndex_df160 0 = .ok (.iload_n 0, 1) := by decide +kernel
theorem dJ0_checkIndex_df160_1 : decode cJ0_checkIndex_df160 1 = .ok (.iload_n 1, 1) := by decide +kernel
theorem dJ0_checkIndex_df160_2 : decode cJ0_checkIndex_df160 2 = .ok (.getstatic 1053, 3) := by decide +kernel
theorem dJ0_checkIndex_df160_5 : decode cJ0_checkIndex_df160 5 = .ok (.invokestatic 1059, 3) := by decide +kernel
theorem dJ0_checkIndex_df160_8 : decode cJ0_checkIndex_df160 8 = .ok (.pop, 1) := by decide +kernel
theorem dJ0_checkIndex_df160_9 : decode cJ0_checkIndex_df160 9 = .ok (.return_, 1) := by decide +kernel
theorem dJ3_checkIndex_8e157_0 : decode cJ3_checkIndex_8e157 0 = .ok (.iload_n 0, 1) := by decide +kernel
theorem dJ3_checkIndex_8e157_1 : decode cJ3_checkIndex_8e157 1 = .ok (.ifCond .lt 8, 3) := by decide +kernel
theorem dJ3_checkIndex_8e157_4 : decode cJ3_checkIndex_8e157 4 = .ok (.iload_n 0, 1) := by decide +kernel
theorem dJ3_checkIndex_8e157_5 : decode cJ3_checkIndex_8e157 5 = .ok (.iload_n 1, 1) := by decide +kernel
theorem dJ3_checkIndex_8e157_6 : decode cJ3_checkIndex_8e157 6 = .ok (.if_icmp .lt 10, 3) := by decide +kernel
theorem dJ3_checkIndex_8e157_9 : decode cJ3_checkIndex_8e157 9 = .ok (.aload_n 2, 1) := by decide +kernel
theorem dJ3_checkIndex_8e157_10 : decode cJ3_checkIndex_8e157 10 = .ok (.iload_n 0, 1) := by decide +kernel
theorem dJ3_checkIndex_8e157_11 : decode cJ3_checkIndex_8e157 11 = .ok (.iload_n 1, 1) := by decide +kernel
theorem dJ3_checkIndex_8e157_12 : decode cJ3_checkIndex_8e157 12 = .ok (.invokestatic 95, 3) := by decide +kernel
theorem dJ3_checkIndex_8e157_15 : decode cJ3_checkIndex_8e157 15 = .ok (.athrow, 1) := by decide +kernel
theorem dJ3_checkIndex_8e157_16 : decode cJ3_checkIndex_8e157 16 = .ok (.iload_n 0, 1) := by decide +kernel
theorem dJ3_checkIndex_8e157_17 : decode cJ3_checkIndex_8e157 17 = .ok (.ireturn, 1) := by decide +kernel
section
variable {d : Nat} {M : ev_Mem}
def sxB : List (List Nat) := [[115, 116, 105, 102, 102, 32, 119, 101, 97, 114, 115, 32, 110, 111, 116, 105, 99, 101, 115, 32, 119, 111, 114, 100, 32, 115, 97, 121, 32, 109, 97, 107, 101, 32, 108, 111, 115, 101, 32, 116, 117, 114, 110, 32, 119, 114, 105, 116, 101, 32, 119, 101, 101, 107], [117, 115, 101, 115], [105, 102], [110, 111, 116], [97, 110, 100], [111, 114], [116, 104, 101, 110], [101, 108, 115, 101], [101, 110, 100], [100, 97, 121, 32, 108, 111, 115, 116, 32, 107, 105, 110, 100, 32, 116, 111, 108, 100, 32, 108, 111, 110, 103, 32, 104, 111, 108, 101, 115, 32, 101, 120, 116, 114, 97, 32, 108, 101, 116, 116, 101, 114, 32, 117, 115, 101, 32, 108, 105, 110, 101, 32, 116, 111, 116, 97, 108, 32, 115, 101, 99, 111, 110, 100, 115], [107, 105, 110, 100], [115, 101, 110, 115, 101], [115, 116, 105, 102, 102], [111, 102], [108, 111, 111, 107]]
theorem sxB_e : ev_byt = sxB.map (fun l => l.map nI) := by decide +kernel
theorem sxL_e : ev_lens = sxB.map List.length := by decide +kernel
def sxl (i : Nat) : Nat := (sxB.getD i []).length
def sxc (i j : Nat) : Nat := (sxB.getD i []).getD j 0
theorem sx_l {i : Nat} : ev_lens.getD i 0 = sxl i := by
  rw [sxL_e]
  unfold sxl
  rw [List.getD_eq_getElem?_getD, List.getElem?_map, List.getD_eq_getElem?_getD]
  cases sxB[i]? <;> rfl
theorem sx_c {i j : Nat} (hj : j < sxl i) : (ev_byt.getD i []).getD j 0 = nI (sxc i j) := by
  rw [sxB_e]
  unfold sxc
  rw [List.getD_eq_getElem?_getD, List.getD_eq_getElem?_getD, List.getElem?_map, List.getD_eq_getElem?_getD, List.getD_eq_getElem?_getD]
  unfold sxl at hj
  rw [List.getD_eq_getElem?_getD] at hj
  cases e : sxB[i]? with
  | none => rw [e] at hj; simp at hj
  | some l =>
    rw [e] at hj
    simp only [Option.getD_some] at hj
    simp only [Option.map_some, Option.getD_some]
    rw [List.getElem?_map, List.getElem?_eq_getElem hj]
    rfl
theorem sxc_lt {i j : Nat} (hi : i < 15) (hj : j < sxl i) : sxc i j < 128 := by
  have h : ∀ i, i < 15 → ∀ j, j < sxl i → sxc i j < 128 := by decide +kernel
  exact h i hi j hj
theorem sxl_lt {i : Nat} (hi : i < 15) : sxl i < 100 := by
  have h : ∀ i, i < 15 → sxl i < 100 := by decide +kernel
  exact h i hi
theorem kJ0_coder {i : Nat} (hi : i < 15) : Cl LX d mJ0_coder_7d493 [.ref (1010 + i)] M (ev_R (some (.int 0)) M) := by
  refine Cl_of rfl (Nat.le_of_ble_eq_true rfl) rfl ?_
  refine ev_gsC dJ0_coder_7d493_0 rfl (ev_if_eq (tgt := 13) dJ0_coder_7d493_3 (by decide) (fun z => absurd z (by decide)) (fun _ => ?_))
  refine ev_aload_n dJ0_coder_7d493_6 rfl (ev_sgC dJ0_coder_7d493_7 rfl hi (ev_goto (tgt := 14) dJ0_coder_7d493_10 (by decide) ?_))
  exact ev_nret dJ0_coder_7d493_14 rfl rfl ⟨rfl, rfl⟩
theorem kJ0_isLatin1 {i : Nat} (hi : i < 15) : Cl LX d mJ0_isLatin1_aae02 [.ref (1010 + i)] M (ev_R (some (.int 1)) M) := by
  refine Cl_of rfl (Nat.le_of_ble_eq_true rfl) rfl ?_
  refine ev_gsC dJ0_isLatin1_aae02_0 rfl (ev_if_eq (tgt := 17) dJ0_isLatin1_aae02_3 (by decide) (fun z => absurd z (by decide)) (fun _ => ?_))
  refine ev_aload_n dJ0_isLatin1_aae02_6 rfl (ev_sgC dJ0_isLatin1_aae02_7 rfl hi (ev_if_ne (tgt := 17) dJ0_isLatin1_aae02_10 (by decide) (fun z => absurd rfl z) (fun _ => ?_)))
  refine ev_iconst (v := 1) dJ0_isLatin1_aae02_13 (by decide) (ev_goto (tgt := 18) dJ0_isLatin1_aae02_14 (by decide) ?_)
  exact ev_zret dJ0_isLatin1_aae02_18 rfl rfl ⟨rfl, rfl⟩
theorem kJ0_length {i : Nat} (hi : i < 15) : Cl LX (d + 1) mJ0_length_8abf5 [.ref (1010 + i)] M (ev_R (some (.int (nI (sxl i)))) M) := by
  refine Cl_of rfl (Nat.le_of_ble_eq_true rfl) rfl ?_
  refine ev_aload_n dJ0_length_8abf5_0 rfl (ev_sgV dJ0_length_8abf5_1 rfl hi (ev_sln dJ0_length_8abf5_4 hi ?_))
  rw [sx_l]
  refine ev_aload_n dJ0_length_8abf5_5 rfl (ev_callVS [] dJ0_length_8abf5_6 ml_java_lang_String_335 hi rfl rfl (Nat.le_of_ble_eq_true rfl) (kJ0_coder hi) (fun r M2 q => ?_))
  rw [q.1, q.2]
  refine ev_ishr dJ0_length_8abf5_9 (ev_iret dJ0_length_8abf5_10 rfl ⟨?_, rfl⟩)
  have := sxl_lt hi
  generalize sxl i = n at this
  have h : ∀ n, n < 100 → nI n >>> ((0 : Int32) &&& 31) = nI n := by decide +kernel
  rw [h n this]
theorem kJ3_checkIndex {x n : Nat} {v : Value} (hv : ev_fm v) (hx : x < n) (hn : n < 2 ^ 31) : Cl LX d mJ3_checkIndex_8e157 [.int (nI x), .int (nI n), v] M (ev_R (some (.int (nI x))) M) := by
  rcases hv with rfl | rfl
  · refine Cl_of rfl (Nat.le_of_ble_eq_true rfl) rfl ?_
    refine ev_iload_n dJ3_checkIndex_8e157_0 rfl (ev_if_lt (tgt := 9) dJ3_checkIndex_8e157_1 (by decide) (fun z => absurd z (nI_pos (by omega))) (fun _ => ?_))
    refine ev_iload_n dJ3_checkIndex_8e157_4 rfl (ev_iload_n dJ3_checkIndex_8e157_5 rfl (ev_icmp_lt (tgt := 16) dJ3_checkIndex_8e157_6 (by decide) (fun _ => ?_) (fun z => absurd (nI_lt hx hn) z)))
    exact ev_iload_n dJ3_checkIndex_8e157_16 rfl (ev_iret dJ3_checkIndex_8e157_17 rfl ⟨rfl, rfl⟩)
  · refine Cl_of rfl (Nat.le_of_ble_eq_true rfl) rfl ?_
    refine ev_iload_n dJ3_checkIndex_8e157_0 rfl (ev_if_lt (tgt := 9) dJ3_checkIndex_8e157_1 (by decide) (fun z => absurd z (nI_pos (by omega))) (fun _ => ?_))
    refine ev_iload_n dJ3_checkIndex_8e157_4 rfl (ev_iload_n dJ3_checkIndex_8e157_5 rfl (ev_icmp_lt (tgt := 16) dJ3_checkIndex_8e157_6 (by decide) (fun _ => ?_) (fun z => absurd (nI_lt hx hn) z)))
    exact ev_iload_n dJ3_checkIndex_8e157_16 rfl (ev_iret dJ3_checkIndex_8e157_17 rfl ⟨rfl, rfl⟩)
theorem kJ0_checkIndex {x n : Nat} (hx : x < n) (hn : n < 2 ^ 31) : Cl LX (d + 1) mJ0_checkIndex_df160 [.int (nI x), .int (nI n)] M (ev_R none M) := by
  refine Cl_of rfl (Nat.le_of_ble_eq_true rfl) rfl ?_
  refine ev_iload_n dJ0_checkIndex_df160_0 rfl (ev_iload_n dJ0_checkIndex_df160_1 rfl (ev_gsF dJ0_checkIndex_df160_2 rfl (fun v hv => ?_)))
  refine ev_callS [.int (nI x), .int (nI n), v] (st := []) dJ0_checkIndex_df160_5 ml_java_lang_String_1059 rfl (by decide) (kJ3_checkIndex hv hx hn) (fun r M2 q => ?_)
  rw [q.1, q.2]
  exact ev_pop dJ0_checkIndex_df160_8 rfl (ev_vret dJ0_checkIndex_df160_9 rfl ⟨rfl, rfl⟩)
theorem kJ1_charAt {i j : Nat} (hi : i < 15) (hj : j < sxl i) : Cl LX (d + 2) mJ1_charAt_3b067 [.ref (1030 + i), .int (nI j)] M (ev_R (some (.int (nI (sxc i j)))) M) := by
  have hl := sxl_lt hi
  refine Cl_of rfl (Nat.le_of_ble_eq_true rfl) rfl ?_
  refine ev_iload_n dJ1_charAt_3b067_0 rfl (ev_aload_n dJ1_charAt_3b067_1 rfl (ev_sln dJ1_charAt_3b067_2 hi ?_))
  rw [sx_l]
  refine ev_callS [.int (nI j), .int (nI (sxl i))] (st := []) dJ1_charAt_3b067_3 ml_java_lang_StringLatin1_9 rfl (by decide) (kJ0_checkIndex (d := d) hj (by omega)) (fun r M2 q => ?_)
  rw [q.1, q.2]
  refine ev_aload_n dJ1_charAt_3b067_6 rfl (ev_iload_n dJ1_charAt_3b067_7 rfl (ev_sbl dJ1_charAt_3b067_8 hi (by rw [sx_l]; exact vp_in_nI hj (by omega)) ?_))
  rw [nI_clamp (by omega), sx_c hj]
  have hc := sxc_lt hi hj
  generalize sxc i j = b at hc
  have h1 : ∀ b, b < 128 → nI b &&& 255 = nI b := by decide +kernel
  have h2 : ∀ b, b < 128 → ((nI b).toUInt32 % 65536).toInt32 = nI b := by decide +kernel
  have h3 : ∀ b, b < 128 → narrow .char (.int (nI b)) = .int (nI b) := fun b hb => (pk_charN (by omega)).1
  refine ev_sipush (v := 255) dJ1_charAt_3b067_9 (by decide) (ev_iand dJ1_charAt_3b067_12 ?_)
  rw [h1 b hc]
  refine ev_i2c dJ1_charAt_3b067_13 (h2 b hc) ?_
  exact ev_nret dJ1_charAt_3b067_14 rfl (h3 b hc) ⟨rfl, rfl⟩
theorem kJ0_charAt {i j : Nat} (hi : i < 15) (hj : j < sxl i) : Cl LX (d + 3) mJ0_charAt_5068e [.ref (1010 + i), .int (nI j)] M (ev_R (some (.int (nI (sxc i j)))) M) := by
  refine Cl_of rfl (Nat.le_of_ble_eq_true rfl) rfl ?_
  refine ev_aload_n dJ0_charAt_5068e_0 rfl (ev_callVS [] dJ0_charAt_5068e_1 ml_java_lang_String_492 hi rfl rfl (Nat.le_of_ble_eq_true rfl) (kJ0_isLatin1 hi) (fun r M2 q => ?_))
  rw [q.1, q.2]
  refine ev_if_eq (tgt := 16) dJ0_charAt_5068e_4 (by decide) (fun z => absurd z (by decide)) (fun _ => ?_)
  refine ev_aload_n dJ0_charAt_5068e_7 rfl (ev_sgV dJ0_charAt_5068e_8 rfl hi (ev_iload_n dJ0_charAt_5068e_11 rfl ?_))
  refine ev_callS [.ref (1030 + i), .int (nI j)] (st := []) dJ0_charAt_5068e_12 ml_java_lang_String_495 rfl (by decide) (kJ1_charAt (d := d) hi hj) (fun r M2 q => ?_)
  rw [q.1, q.2]
  have hc := sxc_lt hi hj
  exact ev_nret dJ0_charAt_5068e_15 rfl (pk_charN (by omega)).1 ⟨rfl, rfl⟩
end
