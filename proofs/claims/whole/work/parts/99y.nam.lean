section
variable {d : Nat} {N : ev_Mem}
theorem il_ok {n s : Nat} (ht : tpN N n) (hs : s ≤ n) (h9 : N.1 0 9 = nI s) : ilOK N := fun i hi => by
  have := ht.1
  rw [h9, nI_add]
  rcases Nat.lt_or_ge (s + i) n with z | z
  · exact (bt_in ht z).1
  · exact (bt_out ht z (by omega)).1
theorem isl_e {n s a1 a2 a3 a4 a5 a6 a7 : Nat} (ht : tpN N n) (hk : mkS N (byN N) n s) (hs : s ≤ n) (ha : ∀ c ∈ [a1, a2, a3, a4, a5, a6, a7], 1 ≤ c ∧ c < 256) : isl N (lN (pkL [a1, a2, a3, a4])) (lN (pkL [a5, a6, a7])) = tkW (byN N) n s [a1, a2, a3, a4, a5, a6, a7] := by
  have hb : ∀ i, i < n → byN N i < 256 := fun i hi => (tn_b ht hi).2
  have sl := srt_lt (b := byN N) (n := n) (s := s) hb
  have n3 := ht.1
  have el := nxt_le (b := byN N) (n := n) (s := s) hs
  have q1 := ha a1 (by simp)
  have q2 := ha a2 (by simp)
  have q3 := ha a3 (by simp)
  have q4 := ha a4 (by simp)
  have q5 := ha a5 (by simp)
  have q6 := ha a6 (by simp)
  have q7 := ha a7 (by simp)
  unfold isl
  rw [hk.2.2.1, hk.1, hk.2.1]
  unfold tkW
  by_cases z : srt (byN N) n s = 1
  · rw [decide_eq_true ((tkN_2 _ sl).mpr z), Bool.true_and, show (srt (byN N) n s == 1) = true from beq_iff_eq.mpr z, Bool.true_and]
    rw [pk_sub el.1]
    by_cases z7 : nxt (byN N) n s - s = 7
    · rw [z7, decide_eq_true (show nI 7 = 7 from rfl), Bool.true_and]
      have bt : ∀ i, i < 7 → btA N (nI (s + i)) = nI (byN N (s + i)) ∧ byN N (s + i) < 256 := fun i hi => (bt_in ht (by omega)).2
      have b0 : btA N (nI s) = nI (byN N s) := (bt 0 (by omega)).1
      have l0 : byN N s < 256 := (bt 0 (by omega)).2
      have e1 : nI s + 1 = nI (s + 1) := nI_add s 1
      have e2 : nI s + 2 = nI (s + 2) := nI_add s 2
      have e3 : nI s + 3 = nI (s + 3) := nI_add s 3
      have e4 : nI s + 4 = nI (s + 4) := nI_add s 4
      have e5 : nI s + 5 = nI (s + 5) := nI_add s 5
      have e6 : nI s + 6 = nI (s + 6) := nI_add s 6
      rw [e1, e2, e3, e4, e5, e6, b0, (bt 1 (by omega)).1, (bt 2 (by omega)).1, (bt 3 (by omega)).1, (bt 4 (by omega)).1, (bt 5 (by omega)).1, (bt 6 (by omega)).1]
      have l1 := (bt 1 (by omega)).2
      have l2 := (bt 2 (by omega)).2
      have l3 := (bt 3 (by omega)).2
      have l4 := (bt 4 (by omega)).2
      have l5 := (bt 5 (by omega)).2
      have l6 := (bt 6 (by omega)).2
      rw [w4_n l0 l1 l2 l3, w3_n l4 l5 l6, Bool.eq_iff_iff, Bool.and_eq_true, decide_eq_true_iff, decide_eq_true_iff, weq_iff, lg_cmp_eq, lg_cmp_eq]
      have p4 : ∀ x y z w : Nat, pkL [x, y, z, w] = ((x * 256 + y) * 256 + z) * 256 + w := fun x y z w => by unfold pkL; simp only [List.foldl_cons, List.foldl_nil, Nat.zero_mul, Nat.zero_add]
      have p3 : ∀ x y z : Nat, pkL [x, y, z] = (x * 256 + y) * 256 + z := fun x y z => by unfold pkL; simp only [List.foldl_cons, List.foldl_nil, Nat.zero_mul, Nat.zero_add]
      rw [p4, p4, p3, p3, pk_lEQ (by omega) (by omega), pk_lEQ (by omega) (by omega), z7]
      constructor
      · rintro ⟨h1, h2⟩
        refine ⟨rfl, fun i hi => ?_⟩
        match i, hi with
        | 0, _ => show byN N (s + 0) = a1; rw [Nat.add_zero]; omega
        | 1, _ => show byN N (s + 1) = a2; omega
        | 2, _ => show byN N (s + 2) = a3; omega
        | 3, _ => show byN N (s + 3) = a4; omega
        | 4, _ => show byN N (s + 4) = a5; omega
        | 5, _ => show byN N (s + 5) = a6; omega
        | 6, _ => show byN N (s + 6) = a7; omega
      · rintro ⟨-, h⟩
        have r0 : byN N s = a1 := h 0 (by omega)
        have r1 : byN N (s + 1) = a2 := h 1 (by omega)
        have r2 : byN N (s + 2) = a3 := h 2 (by omega)
        have r3 : byN N (s + 3) = a4 := h 3 (by omega)
        have r4 : byN N (s + 4) = a5 := h 4 (by omega)
        have r5 : byN N (s + 5) = a6 := h 5 (by omega)
        have r6 : byN N (s + 6) = a7 := h 6 (by omega)
        rw [r0, r1, r2, r3, r4, r5, r6]
        exact ⟨rfl, rfl⟩
    · rw [decide_eq_false (p := nI (nxt (byN N) n s - s) = 7) (fun h => z7 ((nI_eq (a := nxt (byN N) n s - s) (b := 7) (by omega) (by omega)).mp h)), Bool.false_and]
      unfold weq
      rw [show (nxt (byN N) n s - s == [a1, a2, a3, a4, a5, a6, a7].length) = false from beq_eq_false_iff_ne.mpr z7, Bool.false_and]
  · rw [decide_eq_false (fun h => z ((tkN_2 _ sl).mp h)), Bool.false_and, show (srt (byN N) n s == 1) = false from beq_eq_false_iff_ne.mpr z, Bool.false_and]
theorem wv_and : w3f 97 110 100 = lN (pkL [97, 110, 100]) ∧ okw [97, 110, 100] := ⟨by decide +kernel, by decide, by decide⟩
theorem wv_day : w3f 100 97 121 = lN (pkL [100, 97, 121]) ∧ okw [100, 97, 121] := ⟨by decide +kernel, by decide, by decide⟩
theorem wv_else : w4f 101 108 115 101 = lN (pkL [101, 108, 115, 101]) ∧ okw [101, 108, 115, 101] := ⟨by decide +kernel, by decide, by decide⟩
theorem wv_end : w3f 101 110 100 = lN (pkL [101, 110, 100]) ∧ okw [101, 110, 100] := ⟨by decide +kernel, by decide, by decide⟩
theorem wv_extra : w5f 101 120 116 114 97 = lN (pkL [101, 120, 116, 114, 97]) ∧ okw [101, 120, 116, 114, 97] := ⟨by decide +kernel, by decide, by decide⟩
theorem wv_holes : w5f 104 111 108 101 115 = lN (pkL [104, 111, 108, 101, 115]) ∧ okw [104, 111, 108, 101, 115] := ⟨by decide +kernel, by decide, by decide⟩
theorem wv_if : w2f 105 102 = lN (pkL [105, 102]) ∧ okw [105, 102] := ⟨by decide +kernel, by decide, by decide⟩
theorem wv_kind : w4f 107 105 110 100 = lN (pkL [107, 105, 110, 100]) ∧ okw [107, 105, 110, 100] := ⟨by decide +kernel, by decide, by decide⟩
theorem wv_letter : w6f 108 101 116 116 101 114 = lN (pkL [108, 101, 116, 116, 101, 114]) ∧ okw [108, 101, 116, 116, 101, 114] := ⟨by decide +kernel, by decide, by decide⟩
theorem wv_line : w4f 108 105 110 101 = lN (pkL [108, 105, 110, 101]) ∧ okw [108, 105, 110, 101] := ⟨by decide +kernel, by decide, by decide⟩
theorem wv_long : w4f 108 111 110 103 = lN (pkL [108, 111, 110, 103]) ∧ okw [108, 111, 110, 103] := ⟨by decide +kernel, by decide, by decide⟩
theorem wv_look : w4f 108 111 111 107 = lN (pkL [108, 111, 111, 107]) ∧ okw [108, 111, 111, 107] := ⟨by decide +kernel, by decide, by decide⟩
theorem wv_lose : w4f 108 111 115 101 = lN (pkL [108, 111, 115, 101]) ∧ okw [108, 111, 115, 101] := ⟨by decide +kernel, by decide, by decide⟩
theorem wv_lost : w4f 108 111 115 116 = lN (pkL [108, 111, 115, 116]) ∧ okw [108, 111, 115, 116] := ⟨by decide +kernel, by decide, by decide⟩
theorem wv_make : w4f 109 97 107 101 = lN (pkL [109, 97, 107, 101]) ∧ okw [109, 97, 107, 101] := ⟨by decide +kernel, by decide, by decide⟩
theorem wv_not : w3f 110 111 116 = lN (pkL [110, 111, 116]) ∧ okw [110, 111, 116] := ⟨by decide +kernel, by decide, by decide⟩
theorem wv_of : w2f 111 102 = lN (pkL [111, 102]) ∧ okw [111, 102] := ⟨by decide +kernel, by decide, by decide⟩
theorem wv_or : w2f 111 114 = lN (pkL [111, 114]) ∧ okw [111, 114] := ⟨by decide +kernel, by decide, by decide⟩
theorem wv_say : w3f 115 97 121 = lN (pkL [115, 97, 121]) ∧ okw [115, 97, 121] := ⟨by decide +kernel, by decide, by decide⟩
theorem wv_sense : w5f 115 101 110 115 101 = lN (pkL [115, 101, 110, 115, 101]) ∧ okw [115, 101, 110, 115, 101] := ⟨by decide +kernel, by decide, by decide⟩
theorem wv_stiff : w5f 115 116 105 102 102 = lN (pkL [115, 116, 105, 102, 102]) ∧ okw [115, 116, 105, 102, 102] := ⟨by decide +kernel, by decide, by decide⟩
theorem wv_then : w4f 116 104 101 110 = lN (pkL [116, 104, 101, 110]) ∧ okw [116, 104, 101, 110] := ⟨by decide +kernel, by decide, by decide⟩
theorem wv_told : w4f 116 111 108 100 = lN (pkL [116, 111, 108, 100]) ∧ okw [116, 111, 108, 100] := ⟨by decide +kernel, by decide, by decide⟩
theorem wv_total : w5f 116 111 116 97 108 = lN (pkL [116, 111, 116, 97, 108]) ∧ okw [116, 111, 116, 97, 108] := ⟨by decide +kernel, by decide, by decide⟩
theorem wv_turn : w4f 116 117 114 110 = lN (pkL [116, 117, 114, 110]) ∧ okw [116, 117, 114, 110] := ⟨by decide +kernel, by decide, by decide⟩
theorem wv_use : w3f 117 115 101 = lN (pkL [117, 115, 101]) ∧ okw [117, 115, 101] := ⟨by decide +kernel, by decide, by decide⟩
theorem wv_uses : w4f 117 115 101 115 = lN (pkL [117, 115, 101, 115]) ∧ okw [117, 115, 101, 115] := ⟨by decide +kernel, by decide, by decide⟩
theorem wv_wears : w5f 119 101 97 114 115 = lN (pkL [119, 101, 97, 114, 115]) ∧ okw [119, 101, 97, 114, 115] := ⟨by decide +kernel, by decide, by decide⟩
theorem wv_week : w4f 119 101 101 107 = lN (pkL [119, 101, 101, 107]) ∧ okw [119, 101, 101, 107] := ⟨by decide +kernel, by decide, by decide⟩
theorem wv_word : w4f 119 111 114 100 = lN (pkL [119, 111, 114, 100]) ∧ okw [119, 111, 114, 100] := ⟨by decide +kernel, by decide, by decide⟩
theorem wv_write : w5f 119 114 105 116 101 = lN (pkL [119, 114, 105, 116, 101]) ∧ okw [119, 114, 105, 116, 101] := ⟨by decide +kernel, by decide, by decide⟩
theorem wv_seconds : w4f 115 101 99 111 = lN (pkL [115, 101, 99, 111]) ∧ w3f 110 100 115 = lN (pkL [110, 100, 115]) ∧ ∀ c ∈ [115, 101, 99, 111, 110, 100, 115], 1 ≤ c ∧ c < 256 := by decide +kernel
theorem wv_notices : w4f 110 111 116 105 = lN (pkL [110, 111, 116, 105]) ∧ w3f 99 101 115 = lN (pkL [99, 101, 115]) ∧ ∀ c ∈ [110, 111, 116, 105, 99, 101, 115], 1 ≤ c ∧ c < 256 := by decide +kernel
theorem kX11_nameOf {n s : Nat} (ht : tpN N n) (hk : mkS N (byN N) n s) (hs : s ≤ n) : Cl LM (d + 5) mX11_nameOf [.ref 0] N (ev_R (some (.int (rkW (tkW (byN N) n s) nmW 0))) N) := by
  have hb : ∀ i, i < n → byN N i < 256 := fun i hi => (tn_b ht hi).2
  have sl := srt_lt (b := byN N) (n := n) (s := s) hb
  refine Cl_of rfl (Nat.le_of_ble_eq_true rfl) rfl (gX11_nameOf_0 ⟨fun t2 => ?_, fun t2 => ⟨?_, rfl⟩⟩)
  · rw [hk.2.2.1] at t2
    have h1 := (tkN_2 _ sl).mp t2
    have i0 := @spelt_iff N n s [100, 97, 121] (byN N) hb hk h1 wv_day.2
    rw [← wv_day.1] at i0
    have i1 := @spelt_iff N n s [108, 111, 115, 116] (byN N) hb hk h1 wv_lost.2
    rw [← wv_lost.1] at i1
    have i2 := @spelt_iff N n s [107, 105, 110, 100] (byN N) hb hk h1 wv_kind.2
    rw [← wv_kind.1] at i2
    have i3 := @spelt_iff N n s [116, 111, 108, 100] (byN N) hb hk h1 wv_told.2
    rw [← wv_told.1] at i3
    have i4 := @spelt_iff N n s [108, 111, 110, 103] (byN N) hb hk h1 wv_long.2
    rw [← wv_long.1] at i4
    have i5 := @spelt_iff N n s [104, 111, 108, 101, 115] (byN N) hb hk h1 wv_holes.2
    rw [← wv_holes.1] at i5
    have i6 := @spelt_iff N n s [101, 120, 116, 114, 97] (byN N) hb hk h1 wv_extra.2
    rw [← wv_extra.1] at i6
    have i7 := @spelt_iff N n s [108, 101, 116, 116, 101, 114] (byN N) hb hk h1 wv_letter.2
    rw [← wv_letter.1] at i7
    have i8 := @spelt_iff N n s [117, 115, 101] (byN N) hb hk h1 wv_use.2
    rw [← wv_use.1] at i8
    have i9 := @spelt_iff N n s [108, 105, 110, 101] (byN N) hb hk h1 wv_line.2
    rw [← wv_line.1] at i9
    have i10 := @spelt_iff N n s [116, 111, 116, 97, 108] (byN N) hb hk h1 wv_total.2
    rw [← wv_total.1] at i10
    have i11 := isl_e (N := N) ht hk hs wv_seconds.2.2
    rw [← wv_seconds.1, ← wv_seconds.2.1] at i11
    have bf : ∀ {l : List Nat} {x : Int64}, (lg_cmp (N.2 0 12) x = 0 ↔ tkW (byN N) n s l = true) → ¬ lg_cmp (N.2 0 12) x = 0 → tkW (byN N) n s l = false := fun h z => Bool.eq_false_iff.mpr (fun c => z (h.mpr c))
    refine ⟨fun c0 => ?_, fun c0 => ⟨?_, rfl⟩⟩
    rotate_left
    · have g0 := i0.mp c0
      simp [nmW, rkW, g0] <;> rfl
    have g0 := bf i0 c0
    refine ⟨fun c1 => ?_, fun c1 => ⟨?_, rfl⟩⟩
    rotate_left
    · have g1 := i1.mp c1
      simp [nmW, rkW, g0, g1] <;> rfl
    have g1 := bf i1 c1
    refine ⟨fun c2 => ?_, fun c2 => ⟨?_, rfl⟩⟩
    rotate_left
    · have g2 := i2.mp c2
      simp [nmW, rkW, g0, g1, g2] <;> rfl
    have g2 := bf i2 c2
    refine ⟨fun c3 => ?_, fun c3 => ⟨?_, rfl⟩⟩
    rotate_left
    · have g3 := i3.mp c3
      simp [nmW, rkW, g0, g1, g2, g3] <;> rfl
    have g3 := bf i3 c3
    refine ⟨fun c4 => ?_, fun c4 => ⟨?_, rfl⟩⟩
    rotate_left
    · have g4 := i4.mp c4
      simp [nmW, rkW, g0, g1, g2, g3, g4] <;> rfl
    have g4 := bf i4 c4
    refine ⟨fun c5 => ?_, fun c5 => ⟨?_, rfl⟩⟩
    rotate_left
    · have g5 := i5.mp c5
      simp [nmW, rkW, g0, g1, g2, g3, g4, g5] <;> rfl
    have g5 := bf i5 c5
    refine ⟨fun c6 => ?_, fun c6 => ⟨?_, rfl⟩⟩
    rotate_left
    · have g6 := i6.mp c6
      simp [nmW, rkW, g0, g1, g2, g3, g4, g5, g6] <;> rfl
    have g6 := bf i6 c6
    refine ⟨fun c7 => ?_, fun c7 => ⟨?_, rfl⟩⟩
    rotate_left
    · have g7 := i7.mp c7
      simp [nmW, rkW, g0, g1, g2, g3, g4, g5, g6, g7] <;> rfl
    have g7 := bf i7 c7
    refine ⟨fun c8 => ?_, fun c8 => ⟨?_, rfl⟩⟩
    rotate_left
    · have g8 := i8.mp c8
      simp [nmW, rkW, g0, g1, g2, g3, g4, g5, g6, g7, g8] <;> rfl
    have g8 := bf i8 c8
    refine ⟨fun c9 => ?_, fun c9 => ⟨?_, rfl⟩⟩
    rotate_left
    · have g9 := i9.mp c9
      simp [nmW, rkW, g0, g1, g2, g3, g4, g5, g6, g7, g8, g9] <;> rfl
    have g9 := bf i9 c9
    refine ⟨fun c10 => ?_, fun c10 => ⟨?_, rfl⟩⟩
    rotate_left
    · have g10 := i10.mp c10
      simp [nmW, rkW, g0, g1, g2, g3, g4, g5, g6, g7, g8, g9, g10] <;> rfl
    have g10 := bf i10 c10
    refine ⟨il_ok ht hs hk.1, fun c11 => ⟨?_, rfl⟩, fun c11 => ⟨?_, rfl⟩⟩
    all_goals (rw [i11] at c11; simp [nmW, rkW, g0, g1, g2, g3, g4, g5, g6, g7, g8, g9, g10, c11] <;> rfl)
  · rw [hk.2.2.1] at t2
    have h1 := fun h => t2 ((tkN_2 _ sl).mpr h)
    rw [rkW_f (fun w => by unfold tkW; rw [show (srt (byN N) n s == 1) = false from beq_eq_false_iff_ne.mpr h1, Bool.false_and])]
theorem kX11_sortOf {n s : Nat} (ht : tpN N n) (hk : mkS N (byN N) n s) (hs : s ≤ n) : Cl LM (d + 5) mX11_sortOf [.ref 0] N (ev_R (some (.int (rkW (tkW (byN N) n s) clW 0))) N) := by
  have hb : ∀ i, i < n → byN N i < 256 := fun i hi => (tn_b ht hi).2
  refine Cl_of rfl (Nat.le_of_ble_eq_true rfl) rfl (gX11_sortOf_0 ?_)
  have i0 := @isw_e N n s [115, 116, 105, 102, 102] (byN N) hb hk wv_stiff.2
  rw [← wv_stiff.1] at i0
  have i1 := @isw_e N n s [119, 101, 97, 114, 115] (byN N) hb hk wv_wears.2
  rw [← wv_wears.1] at i1
  have i2 := isl_e (N := N) ht hk hs wv_notices.2.2
  rw [← wv_notices.1, ← wv_notices.2.1] at i2
  have i3 := @isw_e N n s [119, 111, 114, 100] (byN N) hb hk wv_word.2
  rw [← wv_word.1] at i3
  have i4 := @isw_e N n s [115, 97, 121] (byN N) hb hk wv_say.2
  rw [← wv_say.1] at i4
  have i5 := @isw_e N n s [109, 97, 107, 101] (byN N) hb hk wv_make.2
  rw [← wv_make.1] at i5
  have i6 := @isw_e N n s [108, 111, 115, 101] (byN N) hb hk wv_lose.2
  rw [← wv_lose.1] at i6
  have i7 := @isw_e N n s [116, 117, 114, 110] (byN N) hb hk wv_turn.2
  rw [← wv_turn.1] at i7
  have i8 := @isw_e N n s [119, 114, 105, 116, 101] (byN N) hb hk wv_write.2
  rw [← wv_write.1] at i8
  have i9 := @isw_e N n s [119, 101, 101, 107] (byN N) hb hk wv_week.2
  rw [← wv_week.1] at i9
  refine ⟨fun g0 => ?_, fun g0 => ⟨?_, rfl⟩⟩
  rotate_left
  · rw [i0] at g0
    simp [clW, rkW, g0] <;> rfl
  rw [i0] at g0
  refine ⟨fun g1 => ?_, fun g1 => ⟨?_, rfl⟩⟩
  rotate_left
  · rw [i1] at g1
    simp [clW, rkW, g0, g1] <;> rfl
  rw [i1] at g1
  refine ⟨il_ok ht hs hk.1, fun g2 => ?_, fun g2 => ⟨?_, rfl⟩⟩
  rotate_left
  · rw [i2] at g2
    simp [clW, rkW, g0, g1, g2] <;> rfl
  rw [i2] at g2
  refine ⟨fun g3 => ?_, fun g3 => ⟨?_, rfl⟩⟩
  rotate_left
  · rw [i3] at g3
    simp [clW, rkW, g0, g1, g2, g3] <;> rfl
  rw [i3] at g3
  refine ⟨fun g4 => ?_, fun g4 => ⟨?_, rfl⟩⟩
  rotate_left
  · rw [i4] at g4
    simp [clW, rkW, g0, g1, g2, g3, g4] <;> rfl
  rw [i4] at g4
  refine ⟨fun g5 => ?_, fun g5 => ⟨?_, rfl⟩⟩
  rotate_left
  · rw [i5] at g5
    simp [clW, rkW, g0, g1, g2, g3, g4, g5] <;> rfl
  rw [i5] at g5
  refine ⟨fun g6 => ?_, fun g6 => ⟨?_, rfl⟩⟩
  rotate_left
  · rw [i6] at g6
    simp [clW, rkW, g0, g1, g2, g3, g4, g5, g6] <;> rfl
  rw [i6] at g6
  refine ⟨fun g7 => ?_, fun g7 => ⟨?_, rfl⟩⟩
  rotate_left
  · rw [i7] at g7
    simp [clW, rkW, g0, g1, g2, g3, g4, g5, g6, g7] <;> rfl
  rw [i7] at g7
  refine ⟨fun g8 => ?_, fun g8 => ⟨?_, rfl⟩⟩
  rotate_left
  · rw [i8] at g8
    simp [clW, rkW, g0, g1, g2, g3, g4, g5, g6, g7, g8] <;> rfl
  rw [i8] at g8
  refine ⟨fun g9 => ⟨?_, rfl⟩, fun g9 => ⟨?_, rfl⟩⟩
  all_goals (rw [i9] at g9; simp [clW, rkW, g0, g1, g2, g3, g4, g5, g6, g7, g8, g9] <;> rfl)
end
