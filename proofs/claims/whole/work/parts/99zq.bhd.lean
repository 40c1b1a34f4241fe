/-! THE MODEL'S READER: behind one -/
section
variable {d : Nat} {N0 N : ev_Mem} {t0 w0 k n s e : Nat} {P : List Nat} {K : List (Nat × Nat)}
theorem ow_41 {N : ev_Mem} {P : List Nat} (h : opwI N = (if onP P = 0 then -1 else nI (onP P))) (hl : onP P < 50) : (opwI N = 41 ↔ onP P = 41) ∧ (opwI N < 0 ↔ onP P = 0) := by
  have q : ∀ x, x < 50 → (((if x = 0 then -1 else nI x) = (41 : Int32)) ↔ x = 41) ∧ ((if x = 0 then -1 else nI x) < (0 : Int32) ↔ x = 0) := by decide +kernel
  rw [h]
  exact q _ hl
theorem on_lt : ∀ {P : List Nat}, okQ P → onP P < 50 ∧ (onP P = 0 ∨ 40 ≤ onP P)
  | [], _ => ⟨by decide, Or.inl rfl⟩
  | p :: P, h => by
    rw [onP]
    split
    · rename_i z
      exact ⟨h.1.2.1, Or.inr z⟩
    · exact on_lt h.2
theorem kX11_betweenOf (h : mSt N0 N t0 w0 k n s P K e) : Cl LM (d + 2) mX11_betweenOf [.ref 0] N (ev_R (some (.int (if btP (byN N0) n s P = 0 then -1 else nI (btP (byN N0) n s P)))) N) := by
  have bb := mk_b h
  have pk := pk_ok h.2.2.2.2.1
  have ow := ow_41 pk.2.2.1 (on_lt h.2.2.2.2.1.2.2.1).1
  obtain ⟨⟨t1, t40, t45⟩, ⟨t43, t42, t47⟩, t41⟩ := tkE _ bb.2.2.1
  obtain ⟨-, ⟨i4, i5⟩, -⟩ := wv_i bb.1 h.2.2.1
  have cp := cpE _ bb.2.2.1
  refine Cl_of rfl (Nat.le_of_ble_eq_true rfl) rfl (gX11_betweenOf_0 ?_)
  rw [h.2.2.1.2.2.1, t43, t45, t42, t47, ow.1, pk.2.2.2.1, i4, i5, cp]
  refine ⟨fun n43 => ⟨fun n45 => ⟨fun n42 => ⟨fun n47 => ⟨pk.1, fun e41 => ⟨pk.1, fun c1 => ⟨fun w4 => ⟨fun w5 => ⟨?_, rfl⟩, fun w5 => ⟨?_, rfl⟩⟩, fun w4 => ⟨?_, rfl⟩⟩, fun c1 => ⟨?_, rfl⟩⟩, fun n41 => ⟨?_, rfl⟩⟩, fun e47 => ⟨?_, rfl⟩⟩, fun e42 => ⟨?_, rfl⟩⟩, fun e45 => ⟨?_, rfl⟩⟩, fun e43 => ⟨?_, rfl⟩⟩
  · rw [show btP (byN N0) n s P = 0 by unfold btP; rw [if_neg n43, if_neg n45, if_neg n42, if_neg n47, if_pos e41, if_pos c1, if_neg (by rw [w4]; decide), if_neg (by rw [w5]; decide)]]; rfl
  · rw [show btP (byN N0) n s P = 22 by unfold btP; rw [if_neg n43, if_neg n45, if_neg n42, if_neg n47, if_pos e41, if_pos c1, if_neg (by rw [w4]; decide), if_pos w5]]; rfl
  · rw [show btP (byN N0) n s P = 21 by unfold btP; rw [if_neg n43, if_neg n45, if_neg n42, if_neg n47, if_pos e41, if_pos c1, if_pos w4]]; rfl
  · rw [show btP (byN N0) n s P = cmN (srt (byN N0) n s) by unfold btP; rw [if_neg n43, if_neg n45, if_neg n42, if_neg n47, if_pos e41, if_neg (by rw [c1]; decide)]]
  · rw [show btP (byN N0) n s P = 0 by unfold btP; rw [if_neg n43, if_neg n45, if_neg n42, if_neg n47, if_neg n41]]; rfl
  · rw [show btP (byN N0) n s P = 8 by unfold btP; rw [if_neg n43, if_neg n45, if_neg n42, if_pos e47]]; rfl
  · rw [show btP (byN N0) n s P = 7 by unfold btP; rw [if_neg n43, if_neg n45, if_pos e42]]; rfl
  · rw [show btP (byN N0) n s P = 6 by unfold btP; rw [if_neg n43, if_pos e45]]; rfl
  · rw [show btP (byN N0) n s P = 5 by unfold btP; rw [if_pos e43]]; rfl
def ptI (x : Option Nat) : Int32 := match x with
  | none => -1
  | some y => nI y
theorem kX11_partOf (h : mSt N0 N t0 w0 k n s P K e) : Cl LM (d + 3) mX11_partOf [.ref 0, .int (opwI N)] N (ev_R (some (.int (ptI (ptP (byN N0) n s P)))) N) := by
  have bb := mk_b h
  have pk := pk_ok h.2.2.2.2.1
  have ol := on_lt h.2.2.2.2.1.2.2.1
  have eo := pk.2.2.1
  obtain ⟨-, -, t41⟩ := tkE _ bb.2.2.1
  obtain ⟨-, -, i6, i7, i8⟩ := wv_i bb.1 h.2.2.1
  have q : ∀ x, x < 50 → (((if x = 0 then -1 else nI x) = (40 : Int32)) ↔ x = 40) ∧ (((if x = 0 then -1 else nI x) = (41 : Int32)) ↔ x = 41) ∧ (((if x = 0 then -1 else nI x) = (42 : Int32)) ↔ x = 42) ∧ (((if x = 0 then -1 else nI x) = (43 : Int32)) ↔ x = 43) := by decide +kernel
  obtain ⟨q0, q1, q2, q3⟩ := q _ ol.1
  refine Cl_of rfl (Nat.le_of_ble_eq_true rfl) rfl (gX11_partOf_0 ?_)
  rw [h.2.2.1.2.2.1, t41, pk.2.2.2.1, i6, i7, i8, eo, q0, q1, q2, q3]
  unfold ptP
  refine ⟨fun c => ⟨fun z => ⟨?_, rfl⟩, fun z => ⟨?_, rfl⟩⟩, fun c => ⟨fun z => ⟨?_, rfl⟩, fun z => ⟨pk.1, fun y => ⟨?_, rfl⟩, fun y => ⟨?_, rfl⟩⟩⟩, fun c => ⟨fun z => ⟨?_, rfl⟩, fun z => ⟨?_, rfl⟩⟩, fun c => ⟨fun z => ⟨?_, rfl⟩, fun z => ⟨?_, rfl⟩⟩, fun c => ⟨?_, rfl⟩⟩
  · rw [if_pos c, if_neg z]; rfl
  · rw [if_pos c, if_pos z]; rfl
  · rw [if_neg (by omega), if_pos c, z, Bool.false_and]; rfl
  · rw [if_neg (by omega), if_pos c, y, Bool.and_false]; rfl
  · rw [if_neg (by omega), if_pos c, z, y]; rfl
  · rw [if_neg (by omega), if_neg (by omega), if_pos c, z]; rfl
  · rw [if_neg (by omega), if_neg (by omega), if_pos c, z]; rfl
  · rw [if_neg (by omega), if_neg (by omega), if_neg (by omega), if_pos c, z]; rfl
  · rw [if_neg (by omega), if_neg (by omega), if_neg (by omega), if_pos c, z]; rfl
  · rw [if_neg c.1, if_neg c.2.1, if_neg c.2.2.1, if_neg c.2.2.2]; rfl
/-- what stands between two -/
theorem bt_c {b : Nat → Nat} {c : Nat} (h : btP b n s P = c) (hc : c ≠ 0) : (5 ≤ c ∧ c < 23) ∧ ctd c = false ∧ (1 ≤ rkN c ∧ rkN c ≤ 6) ∧ (rkN c = 4 → icP P = false) ∧ s < n := by
  have hs : s < n := by
    rcases Nat.lt_or_ge s n with z | z
    · exact z
    · exfalso
      have e0 : srt b n s = 0 := by unfold srt; rw [if_pos z]
      apply hc
      rw [← h]
      unfold btP
      rw [tkW_no (by omega), tkW_no (by omega), e0]
      simp [cmN]
  have k1 : ∀ x, x = 5 ∨ x = 6 ∨ x = 7 ∨ x = 8 ∨ x = 21 ∨ x = 22 → (5 ≤ x ∧ x < 23) ∧ ctd x = false ∧ (1 ≤ rkN x ∧ rkN x ≤ 6) ∧ (rkN x = 4 → icP P = false) ∧ s < n := by
    intro x hx
    refine ⟨by omega, ?_, ?_, ?_, hs⟩
    · rcases hx with rfl | rfl | rfl | rfl | rfl | rfl <;> rfl
    · rcases hx with rfl | rfl | rfl | rfl | rfl | rfl <;> decide
    · intro q; exfalso; revert q; rcases hx with rfl | rfl | rfl | rfl | rfl | rfl <;> decide
  unfold btP at h
  subst h
  split
  · exact k1 _ (by omega)
  · split
    · exact k1 _ (by omega)
    · split
      · exact k1 _ (by omega)
      · split
        · exact k1 _ (by omega)
        · split
          · split
            · split
              · exact k1 _ (by omega)
              · split
                · exact k1 _ (by omega)
                · rename_i a1 a2 a3 a4 a5 a6 a7 a8
                  exfalso
                  rw [if_neg a1, if_neg a2, if_neg a3, if_neg a4, if_pos a5, if_pos a6, if_neg a7, if_neg a8] at hc
                  exact hc rfl
            · rename_i a1 a2 a3 a4 a5 a6
              rw [if_neg a1, if_neg a2, if_neg a3, if_neg a4, if_pos a5, if_neg a6] at hc
              have r := cm_rk (t := srt b n s) rfl hc
              have r2 : 10 ≤ cmN (srt b n s) ∧ cmN (srt b n s) ≤ 15 := by
                unfold cmN at hc ⊢
                (repeat' split) <;> first | omega | (exfalso; simp_all)
              have q : ∀ c, c < 16 → 10 ≤ c → ctd c = false := by decide
              exact ⟨by omega, q _ (by omega) r2.1, by omega, fun _ => Bool.eq_false_iff.mpr a6, hs⟩
          · rename_i a1 a2 a3 a4 a5
            exfalso
            rw [if_neg a1, if_neg a2, if_neg a3, if_neg a4, if_neg a5] at hc
            exact hc rfl
theorem pt_c {b : Nat → Nat} {x : Nat} (h : ptP b n s P = some x) : s < n ∧ 40 ≤ onP P ∧ (x = 0 ∨ x = 42 ∨ x = 43) := by
  unfold ptP at h
  have wn : ∀ {l : List Nat}, tkW b n s l = true → s < n := fun q => srt_end (b := b) (by rw [tkW_s q]; decide)
  split at h
  · split at h
    · cases h
      exact ⟨srt_end (b := b) (n := n) (s := s) (by omega), by omega, by omega⟩
    · cases h
  · split at h
    · split at h
      · rename_i q
        cases h
        rw [Bool.and_eq_true] at q
        exact ⟨wn q.1, by omega, by omega⟩
      · cases h
    · split at h
      · split at h
        · rename_i q
          cases h
          exact ⟨wn q, by omega, by omega⟩
        · cases h
      · split at h
        · split at h
          · rename_i q
            cases h
            exact ⟨wn q, by omega, by omega⟩
          · cases h
        · cases h
end
