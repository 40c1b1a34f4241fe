/-! THE START: what the tables and the statement give -/
theorem tq1 {w : Cond} (i : Nat) (h : tables_1_1[i]? = some w) : w ∈ lw_tbl := (List.mem_append_right _ (List.mem_append_left _ (List.mem_of_getElem? h)))
theorem tq2 {w : Cond} (i : Nat) (h : tables_1_2[i]? = some w) : w ∈ lw_tbl := (List.mem_append_right _ (List.mem_append_right _ (List.mem_append_left _ (List.mem_of_getElem? h))))
theorem tq3 {w : Cond} (i : Nat) (h : tables_1_3[i]? = some w) : w ∈ lw_tbl := (List.mem_append_right _ (List.mem_append_right _ (List.mem_append_right _ (List.mem_append_left _ (List.mem_of_getElem? h)))))
theorem tq4 {w : Cond} (i : Nat) (h : tables_1_4[i]? = some w) : w ∈ lw_tbl := (List.mem_append_right _ (List.mem_append_right _ (List.mem_append_right _ (List.mem_append_right _ (List.mem_append_left _ (List.mem_of_getElem? h))))))
theorem tq5 {w : Cond} (i : Nat) (h : tables_1_5[i]? = some w) : w ∈ lw_tbl := (List.mem_append_right _ (List.mem_append_right _ (List.mem_append_right _ (List.mem_append_right _ (List.mem_append_right _ (List.mem_append_left _ (List.mem_of_getElem? h)))))))
theorem tq6 {w : Cond} (i : Nat) (h : tables_1_6[i]? = some w) : w ∈ lw_tbl := (List.mem_append_right _ (List.mem_append_right _ (List.mem_append_right _ (List.mem_append_right _ (List.mem_append_right _ (List.mem_append_right _ (List.mem_append_left _ (List.mem_of_getElem? h))))))))
theorem tq7 {w : Cond} (i : Nat) (h : tables_1_7[i]? = some w) : w ∈ lw_tbl := (List.mem_append_right _ (List.mem_append_right _ (List.mem_append_right _ (List.mem_append_right _ (List.mem_append_right _ (List.mem_append_right _ (List.mem_append_right _ (List.mem_append_left _ (List.mem_of_getElem? h)))))))))
theorem tq8 {w : Cond} (i : Nat) (h : tables_1_8[i]? = some w) : w ∈ lw_tbl := (List.mem_append_right _ (List.mem_append_right _ (List.mem_append_right _ (List.mem_append_right _ (List.mem_append_right _ (List.mem_append_right _ (List.mem_append_right _ (List.mem_append_right _ (List.mem_append_left _ (List.mem_of_getElem? h))))))))))
theorem tq9 {w : Cond} (i : Nat) (h : tables_1_9[i]? = some w) : w ∈ lw_tbl := (List.mem_append_right _ (List.mem_append_right _ (List.mem_append_right _ (List.mem_append_right _ (List.mem_append_right _ (List.mem_append_right _ (List.mem_append_right _ (List.mem_append_right _ (List.mem_append_right _ (List.mem_of_getElem? h))))))))))
section
variable {args : Array Value} {s : State}
theorem sta_T (hts : ∀ w ∈ lw_tbl, w.before args s = true) : ∀ w ∈ ev_T, w.before args s = true := fun w hw => hts w (List.mem_filter.mp hw).1
theorem sta_C (hts : ∀ w ∈ lw_tbl, w.before args s = true) : ∃ D : va_G, ∀ (c : Nat) (q : vw_C), ev_cl[c]? = some q → u_Kn s q.1 q.2.1 q.2.2 (D.1 c) (D.2 c) := by
  have hT := sta_T hts
  have h : ∀ c : Nat, ∃ x : ClassId × (Nat → Nat), ∀ q : vw_C, ev_cl[c]? = some q → u_Kn s q.1 q.2.1 q.2.2 x.1 x.2 := by
    intro c
    match c with
    | 0 =>
      obtain ⟨a, f, h⟩ := u_known (C := RX0) (T := TX0) (N := 9) (n := 9) hT lw_0 (hT _ (ev_t1 48 rfl rfl))
      exact ⟨(a, f), fun q hq => by cases hq; exact h⟩
    | 1 =>
      obtain ⟨a, f, h⟩ := u_known (C := RX1) (T := TX1) (N := 5) (n := 5) hT lw_1 (hT _ (ev_t2 56 rfl rfl))
      exact ⟨(a, f), fun q hq => by cases hq; exact h⟩
    | 2 =>
      obtain ⟨a, f, h⟩ := u_known (C := RX2) (T := TX2) (N := 3) (n := 3) hT lw_2 (hT _ (ev_t2 85 rfl rfl))
      exact ⟨(a, f), fun q hq => by cases hq; exact h⟩
    | 3 =>
      obtain ⟨a, f, h⟩ := u_known (C := RX3) (T := TX3) (N := 12) (n := 12) hT lw_3 (hT _ (ev_t1 150 rfl rfl))
      exact ⟨(a, f), fun q hq => by cases hq; exact h⟩
    | 4 =>
      obtain ⟨a, f, h⟩ := u_known (C := RX4) (T := TX4) (N := 9) (n := 9) hT lw_4 (hT _ (ev_t1 213 rfl rfl))
      exact ⟨(a, f), fun q hq => by cases hq; exact h⟩
    | 5 =>
      obtain ⟨a, f, h⟩ := u_known (C := RX5) (T := TX5) (N := 2) (n := 2) hT lw_5 (hT _ (ev_t2 43 rfl rfl))
      exact ⟨(a, f), fun q hq => by cases hq; exact h⟩
    | 6 =>
      obtain ⟨a, f, h⟩ := u_known (C := RX6) (T := TX6) (N := 18) (n := 18) hT lw_6 (hT _ (ev_t2 78 rfl rfl))
      exact ⟨(a, f), fun q hq => by cases hq; exact h⟩
    | 7 =>
      obtain ⟨a, f, h⟩ := u_known (C := RX7) (T := TX7) (N := 2) (n := 2) hT lw_7 (hT _ (ev_t1 30 rfl rfl))
      exact ⟨(a, f), fun q hq => by cases hq; exact h⟩
    | 8 =>
      obtain ⟨a, f, h⟩ := u_known (C := RX8) (T := TX8) (N := 6) (n := 6) hT lw_8 (hT _ (ev_t2 9 rfl rfl))
      exact ⟨(a, f), fun q hq => by cases hq; exact h⟩
    | 9 =>
      obtain ⟨a, f, h⟩ := u_known (C := RX9) (T := TX9) (N := 10) (n := 10) hT lw_9 (hT _ (ev_t1 105 rfl rfl))
      exact ⟨(a, f), fun q hq => by cases hq; exact h⟩
    | 10 =>
      obtain ⟨a, f, h⟩ := u_known (C := RX10) (T := TX10) (N := 18) (n := 18) hT lw_10 (hT _ (ev_t1 22 rfl rfl))
      exact ⟨(a, f), fun q hq => by cases hq; exact h⟩
    | 11 =>
      obtain ⟨a, f, h⟩ := u_known (C := RX11) (T := TX11) (N := 35) (n := 35) hT lw_11 (hT _ (ev_t6 15 rfl rfl))
      exact ⟨(a, f), fun q hq => by cases hq; exact h⟩
    | c + 12 => exact ⟨(0, fun _ => 0), fun q hq => by simp [ev_cl] at hq⟩
  obtain ⟨f, hf⟩ := Classical.axiomOfChoice h
  exact ⟨(fun c => (f c).1, fun c => (f c).2), fun c q hq => hf c q hq⟩
theorem sta_I (hts : ∀ w ∈ lw_tbl, w.before args s = true) : ∃ ids : Nat → ClassId, (∀ (k : Nat) (q : ClassId × FieldType), (ev_tys ids)[k]? = some q → ArrOfT s q.1 q.2 ∧ va_RA s q.1 q.2) ∧ ek_AA ids s := by
  obtain ⟨c0, k0, m0, a1, a2, a3⟩ := Cond.arrayClass_spec (hts (.arrayClass .int) (tq1 46 rfl))
  obtain ⟨c1, k1, m1, b1, b2, b3⟩ := Cond.arrayClass_spec (hts (.arrayClass .boolean) (tq2 101 rfl))
  obtain ⟨c2, k2, m2, d1, d2, d3⟩ := Cond.arrayClass_spec (hts (.arrayClass .long) (tq6 129 rfl))
  obtain ⟨m3, c3, k3, e1, -, e2, e3, e4⟩ := arrayOverA_spec (hts (.arrayOver (.array .int)) (tq1 54 rfl))
  obtain ⟨m4, c4, k4, f1, -, f2, f3, f4⟩ := Cond.arrayOver_spec (hts (.arrayOver (.object "WithoutE$Text")) (tq1 211 rfl))
  have e5 : s.vm.findClass (FieldType.array .int).toString = some c0 := a1
  obtain rfl : m3 = c0 := Option.some.inj (e1.symm.trans e5)
  refine ⟨fun k => if k = 0 then m3 else if k = 1 then c1 else if k = 2 then c2 else if k = 3 then c3 else c4, fun k q hq => ?_, k3, e2, e3⟩
  match k, hq with
  | 0, hq => cases hq; exact ⟨fun n z => ⟨(fun k h => by cases h), k0, a2, m0, a3⟩, a1⟩
  | 1, hq => cases hq; exact ⟨fun n z => ⟨(fun k h => by cases h), k1, b2, m1, b3⟩, b1⟩
  | 2, hq => cases hq; exact ⟨fun n z => ⟨(fun k h => by cases h), k2, d2, m2, d3⟩, d1⟩
  | 3, hq => cases hq; exact ⟨fun n z => ⟨(fun k h => by cases h), k3, e2, m3, e3⟩, e4⟩
  | 4, hq => cases hq; exact ⟨fun n z => ⟨(fun k h => by cases h), k4, f2, m4, f3⟩, k4, m4, f2, f3, f1, f4⟩
  | k + 5, hq => simp [ev_tys] at hq
theorem sta_N (hts : ∀ w ∈ lw_tbl, w.before args s = true) : ∀ w ∈ ev_N, va_Nw w s := by
  intro w hw
  simp only [ev_N, List.mem_cons, List.not_mem_nil, or_false] at hw
  rcases hw with rfl | rfl | rfl | rfl | rfl | rfl
  · exact va_Nw.of rfl (hts _ (tq3 173 rfl))
  · exact va_Nw.of rfl (hts _ (tq4 62 rfl))
  · exact va_Nw.of rfl (hts _ (tq4 67 rfl))
  · exact va_Nw.of rfl (hts _ (tq4 205 rfl))
  · exact va_Nw.of rfl (hts _ (tq3 159 rfl))
  · exact va_Nw.of rfl (hts _ (tq4 76 rfl))
theorem sta_M (hts : ∀ w ∈ lw_tbl, w.before args s = true) : ∀ w ∈ ek_N, va_Nw w s := by
  intro w hw
  simp only [ek_N, List.mem_cons, List.not_mem_nil, or_false] at hw
  rcases hw with rfl | rfl | rfl | rfl | rfl
  · exact va_Nw.of rfl (hts _ (tq1 31 rfl))
  · exact va_Nw.of rfl (hts _ (tq1 49 rfl))
  · exact va_Nw.of rfl (hts _ (tq1 106 rfl))
  · exact va_Nw.of rfl (hts _ (tq2 10 rfl))
  · exact va_Nw.of rfl (hts _ (tq2 86 rfl))
/-- what the statement says of the start -/
def gvL : List Cond := flatC (Jvm.Cond.and given_1 narrow_1)
def st_tm (i : Nat) : Term := .string "WithoutE$Reader" (ev_sx.getD i (0, "")).1
def st_vl (i : Nat) : Term := .field (st_tm i) "java/lang/String" "value" "[B"
def st_pe : List Nat := [31, 89, 98, 106, 116, 127, 138, 152, 167, 182, 260, 278, 298, 319, 338]
def st_pp : List Nat := [0, 97, 104, 113, 123, 133, 146, 160, 174, 251, 268, 287, 307, 325, 346, 97, 0, 105, 114, 124, 134, 147, 161, 175, 252, 269, 288, 308, 326, 347, 104, 105, 0, 115, 125, 135, 148, 162, 176, 253, 270, 289, 309, 327, 348, 113, 114, 115, 0, 126, 136, 149, 163, 177, 254, 271, 290, 310, 328, 349, 123, 124, 125, 126, 0, 137, 150, 164, 178, 255, 272, 291, 311, 329, 350, 133, 134, 135, 136, 137, 0, 151, 165, 179, 256, 273, 292, 312, 330, 351, 146, 147, 148, 149, 150, 151, 0, 166, 180, 257, 274, 293, 313, 331, 352, 160, 161, 162, 163, 164, 165, 166, 0, 181, 258, 275, 294, 314, 332, 353, 174, 175, 176, 177, 178, 179, 180, 181, 0, 259, 276, 295, 315, 333, 354, 251, 252, 253, 254, 255, 256, 257, 258, 259, 0, 277, 296, 316, 334, 355, 268, 269, 270, 271, 272, 273, 274, 275, 276, 277, 0, 297, 317, 335, 356, 287, 288, 289, 290, 291, 292, 293, 294, 295, 296, 297, 0, 318, 336, 357, 307, 308, 309, 310, 311, 312, 313, 314, 315, 316, 317, 318, 0, 337, 358, 325, 326, 327, 328, 329, 330, 331, 332, 333, 334, 335, 336, 337, 0, 359, 346, 347, 348, 349, 350, 351, 352, 353, 354, 355, 356, 357, 358, 359, 0]
theorem st_lon : ∀ j, j < 12 → gvL[12 + j]? = some (.eq (.elem (.static "WithoutE" "LAW_OF_NAME" "[I") (.int (Int32.ofNat j))) (.int (ev_lon j))) := by decide +kernel
theorem st_eok : ∀ j, j < 4 → gvL[27 + j]? = some (.eq (.elem (.static "WithoutE" "EXTRA_OF_KIND" "[I") (.int (Int32.ofNat j))) (.int (ev_eok j))) := by decide +kernel
theorem st_len : ∀ i, i < 15 → ev_lens.getD i 0 < 2 ^ 31 := by decide +kernel
theorem st_ex : ∀ i, i < 15 → gvL[st_pe.getD i 0]? = some (.exactly (st_tm i) "java/lang/String") := by decide +kernel
theorem st_co : ∀ i, i < 15 → gvL[st_pe.getD i 0 + 1]? = some (.eq (.field (st_tm i) "java/lang/String" "coder" "B") (.int 0)) := by decide +kernel
theorem st_ar : ∀ i, i < 15 → gvL[st_pe.getD i 0 + 2]? = some (.arrayOf (st_vl i) .byte) := by decide +kernel
theorem st_le : ∀ i, i < 15 → gvL[st_pe.getD i 0 + 3]? = some (.eq (.length (st_vl i)) (.int (Int32.ofNat (ev_lens.getD i 0)))) := by decide +kernel
theorem st_el : ∀ i, i < 15 → ∀ j, j < ev_lens.getD i 0 → gvL[st_pe.getD i 0 + 4 + j]? = some (.eq (.elem (st_vl i) (.int (Int32.ofNat j))) (.int ((ev_byt.getD i []).getD j 0))) := by decide +kernel
theorem st_ne : ∀ i, i < 15 → ∀ j, j < 15 → i ≠ j → gvL[st_pp.getD (15 * i + j) 0]? = some (.not (.eq (st_tm i) (st_tm j))) ∨ gvL[st_pp.getD (15 * i + j) 0]? = some (.not (.eq (st_tm j) (st_tm i))) := by decide +kernel
theorem sta_S (hts : ∀ w ∈ lw_tbl, w.before args s = true) (hgv : (Jvm.Cond.and given_1 narrow_1).before args s = true) : ∃ ad : Nat → Nat, ev_S ad (ek_A s.heap.size) s := by
  have hg : ∀ (n : Nat) (w : Cond), gvL[n]? = some w → w.before args s = true := fun n w h => flat_of_before _ hgv w (List.mem_of_getElem? h)
  have hA : ∀ a : Nat, a < s.heap.size → ¬ ek_A s.heap.size a := fun a h => Nat.not_le.mpr h
  obtain ⟨t0, g0, T0⟩ := va_Tof (tm := .static "WithoutE" "LAW_OF_NAME" "[I") (ty := .int) (N := 12) (f := fun j => .int (ev_lon j)) (A := ek_A s.heap.size) (by decide) (hg 10 _ (by decide +kernel)) (va_eqt (hg 11 _ (by decide +kernel))) (fun j hj => va_eqt (hg _ _ (st_lon j hj))) hA
  obtain ⟨t1, g1, T1⟩ := va_Tof (tm := .static "WithoutE" "EXTRA_OF_KIND" "[I") (ty := .int) (N := 4) (f := fun j => .int (ev_eok j)) (A := ek_A s.heap.size) (by decide) (hg 25 _ (by decide +kernel)) (va_eqt (hg 26 _ (by decide +kernel))) (fun j hj => va_eqt (hg _ _ (st_eok j hj))) hA
  obtain ⟨adK, adV, hV, hE⟩ := vk_Sof (args := args) (s := s) (N := 15) (tm := st_tm) (len := ev_lens) (byt := ev_byt) (A := ek_A s.heap.size) st_len (fun i hi => hg _ _ (st_ex i hi)) (fun i hi => hg _ _ (st_co i hi)) (fun i hi => hg _ _ (st_ar i hi)) (fun i hi => hg _ _ (st_le i hi)) (fun i hi j hj => hg _ _ (st_el i hi j hj)) (fun i j hi hj h => (st_ne i hi j hj h).elim (fun z => Or.inl (hg _ _ z)) (fun z => Or.inr (hg _ _ z))) hA
  have hF : ∃ t2, ev_F t2 (ek_A s.heap.size) s s.heap := by
    rcases va_Zqof (A := ek_A s.heap.size) (hts (.laysStatic "jdk/internal/util/Preconditions" "SIOOBE_FORMATTER" "Ljava/util/function/BiFunction;") (tq3 44 rfl)) (hts (.initialized "jdk/internal/util/Preconditions") (tq1 16 rfl)) (hg 5 _ (by decide +kernel)) hA with h | ⟨t, h⟩
    · exact ⟨0, Or.inl h⟩
    · exact ⟨t, Or.inr h⟩
  obtain ⟨t2, hF⟩ := hF
  have eK : ∀ i, i < 15 → (fun k => if k = 1000 then t0 else if k = 1001 then t1 else if k = 1002 then t2 else if k < 1030 then adK (k - 1010) else adV (k - 1030)) (1010 + i) = adK i := fun i hi => by
    show (if 1010 + i = 1000 then t0 else if 1010 + i = 1001 then t1 else if 1010 + i = 1002 then t2 else if 1010 + i < 1030 then adK (1010 + i - 1010) else adV (1010 + i - 1030)) = adK i
    rw [if_neg (by omega), if_neg (by omega), if_neg (by omega), if_pos (by omega), Nat.add_sub_cancel_left]
  have eV : ∀ i, i < 15 → (fun k => if k = 1000 then t0 else if k = 1001 then t1 else if k = 1002 then t2 else if k < 1030 then adK (k - 1010) else adV (k - 1030)) (1030 + i) = adV i := fun i hi => by
    show (if 1030 + i = 1000 then t0 else if 1030 + i = 1001 then t1 else if 1030 + i = 1002 then t2 else if 1030 + i < 1030 then adK (1030 + i - 1010) else adV (1030 + i - 1030)) = adV i
    rw [if_neg (by omega), if_neg (by omega), if_neg (by omega), if_neg (by omega), Nat.add_sub_cancel_left]
  generalize hd : (fun k => if k = 1000 then t0 else if k = 1001 then t1 else if k = 1002 then t2 else if k < 1030 then adK (k - 1010) else adV (k - 1030)) = ad at eK eV
  have e0 : ad 1000 = t0 := by rw [← hd]; rfl
  have e1 : ad 1001 = t1 := by rw [← hd]; rfl
  have e2 : ad 1002 = t2 := by rw [← hd]; rfl
  refine ⟨ad, sta_N hts, ⟨?_, ?_⟩, ⟨?_, ?_⟩, fun i q hi => ?_, ⟨fun i hi => ?_, fun i j hi hj e => ?_⟩, ?_, ?_⟩
  · rw [e0]; exact va_Zof (hts (.laysStatic "WithoutE" "LAW_OF_NAME" "[I") (tq3 160 rfl)) (hts (.initialized "WithoutE") (tq1 1 rfl)) g0 hA
  · rw [e0]; exact T0
  · rw [e1]; exact va_Zof (hts (.laysStatic "WithoutE" "EXTRA_OF_KIND" "[I") (tq4 77 rfl)) (hts (.initialized "WithoutE") (tq1 1 rfl)) g1 hA
  · rw [e1]; exact T1
  · have hi15 : i < 15 := (List.getElem?_eq_some_iff.mp hi).1
    rw [eK i hi15]
    have hE := hE i hi15
    match i, hi, hE with
    | 0, hi, hE => cases hi; exact vk_R.of (hts _ (tq3 14 rfl)) hE
    | 1, hi, hE => cases hi; exact vk_R.of (hts _ (tq3 114 rfl)) hE
    | 2, hi, hE => cases hi; exact vk_R.of (hts _ (tq3 119 rfl)) hE
    | 3, hi, hE => cases hi; exact vk_R.of (hts _ (tq3 136 rfl)) hE
    | 4, hi, hE => cases hi; exact vk_R.of (hts _ (tq3 141 rfl)) hE
    | 5, hi, hE => cases hi; exact vk_R.of (hts _ (tq3 142 rfl)) hE
    | 6, hi, hE => cases hi; exact vk_R.of (hts _ (tq3 143 rfl)) hE
    | 7, hi, hE => cases hi; exact vk_R.of (hts _ (tq3 148 rfl)) hE
    | 8, hi, hE => cases hi; exact vk_R.of (hts _ (tq3 153 rfl)) hE
    | 9, hi, hE => cases hi; exact vk_R.of (hts _ (tq3 158 rfl)) hE
    | 10, hi, hE => cases hi; exact vk_R.of (hts _ (tq3 176 rfl)) hE
    | 11, hi, hE => cases hi; exact vk_R.of (hts _ (tq3 181 rfl)) hE
    | 12, hi, hE => cases hi; exact vk_R.of (hts _ (tq3 182 rfl)) hE
    | 13, hi, hE => cases hi; exact vk_R.of (hts _ (tq3 191 rfl)) hE
    | 14, hi, hE => cases hi; exact vk_R.of (hts _ (tq3 192 rfl)) hE
    | i + 15, hi, _ => exact absurd hi15 (by omega)
  · show va_O _ (ad (1010 + i)) _ _ _ ∧ va_OF _ _ _ _ (ad (1010 + i)) _ _ _ ∧ va_OF _ _ _ (.ref (ad (1030 + i))) (ad (1010 + i)) _ _ _ ∧ va_T _ (ad (1030 + i)) _ _ _ _ _
    rw [eK i hi, eV i hi]
    exact hV.1 i hi
  · refine hV.2 i j hi hj ?_
    rw [← eK i hi, ← eK j hj]
    exact e
  · exact va_Zof (hts (.laysStatic "java/lang/String" "COMPACT_STRINGS" "Z") (tq3 28 rfl)) (hts (.initialized "java/lang/String") (tq1 14 rfl)) (va_eqi (hg 4 _ (by decide +kernel))) hA
  · rw [e2]; exact hF
end
