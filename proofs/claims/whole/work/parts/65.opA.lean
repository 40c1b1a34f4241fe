/-! CALLS: is, use, status, about, fault, end, by, clear, told, stiff -/
section
variable {B : Nat} {M N : ev_Mem}
theorem bb {b c e : Bool} {P : Prop} (h : b = c) (k : b = e) (hn : c ≠ e := by decide) : P := absurd (h.symm.trans k) hn
theorem sI {a b : Int32} (h : a = b) : some (Value.int a) = some (Value.int b) := by rw [h]
theorem op_is (h : RX B M N) (x : Int32) : OP 200 mX10_is mX11_is [.int x] B M N := by
  obtain ⟨W, S, T, Wk, Sk, Tk, ⟨⟨-, -, ⟨⟨k1, k2, k3, k4, k5⟩, -⟩, -⟩, -⟩, -⟩ := id h
  have e0 : M.1 43 3 = N.1 1 8 := k4.1
  have e1 : M.1 43 0 = N.1 1 9 := k2.1
  have e2 : M.1 43 2 = N.1 1 10 := k3.1
  have e3 : M.1 43 4 = N.1 1 11 := k5.1
  refine op_ro (v := some (.int (if x = 0 then N.1 1 8 else if x = 1 then N.1 1 9 else if x = 2 then N.1 1 10 else if x = 3 then N.1 1 11 else -2))) h ?_ ?_
  · refine Cl_of rfl (Nat.le_of_ble_eq_true rfl) rfl (gX10_is_0 ⟨?_, ?_, ?_, ?_, ?_⟩)
    · rintro rfl; exact ⟨sI e0, xq.rf⟩
    · rintro rfl; exact ⟨sI e1, xq.rf⟩
    · rintro rfl; exact ⟨sI e2, xq.rf⟩
    · rintro rfl; exact ⟨sI e3, xq.rf⟩
    · rintro ⟨a, b, c, d⟩; exact ⟨by rw [if_neg a, if_neg b, if_neg c, if_neg d], xq.rf⟩
  · refine Cl_of rfl (Nat.le_of_ble_eq_true rfl) rfl (gX11_is_0 ⟨fun a => ⟨fun b => ⟨fun c => ⟨fun d => ?_, fun d => ?_⟩, fun c => ?_⟩, fun b => ?_⟩, fun a => ?_⟩)
    · exact ⟨by rw [if_neg a, if_neg b, if_neg c, if_neg d], pe.rf⟩
    · exact ⟨by rw [if_neg a, if_neg b, if_neg c, if_pos d], pe.rf⟩
    · exact ⟨by rw [if_neg a, if_neg b, if_pos c], pe.rf⟩
    · exact ⟨by rw [if_neg a, if_pos b], pe.rf⟩
    · exact ⟨by rw [if_pos a], pe.rf⟩
theorem op_use (h : RX B M N) (x : Int32) : OP 200 mX10_use mX11_use [.int x] B M N := by
  obtain ⟨W, S, T, Wk, Sk, Tk, ⟨⟨-, -, ⟨⟨k1, k2, k3, k4, k5⟩, -⟩, -⟩, -⟩, -⟩ := id h
  cases z : iin x 0 25 with
  | false =>
    refine op_ro (v := some (.int (-1))) h ?_ ?_
    · exact Cl_of rfl (Nat.le_of_ble_eq_true rfl) rfl (gX10_use_0 ⟨fun _ => ⟨rfl, xq.rf⟩, fun y => bb z y⟩)
    · exact Cl_of rfl (Nat.le_of_ble_eq_true rfl) rfl (gX11_use_0 ⟨fun _ => ⟨rfl, pe.rf⟩, fun y => bb z y⟩)
  | true =>
    obtain ⟨l, hl, rfl⟩ := (iin_lit 25 (by omega)).mp z
    have e : (13 : Int32) + nI l = nI (13 + l) := by rw [show (13 : Int32) = nI 13 from rfl, nI_add]
    refine op_ro (v := some (.int (N.1 1 (13 + l)))) h ?_ ?_
    · refine Cl_of rfl (Nat.le_of_ble_eq_true rfl) rfl (gX10_use_0 ⟨fun y => bb z y, fun y => ⟨vp_in_nI (by omega) (by omega), ?_, xq.rf⟩⟩)
      rw [nI_clamp (by omega)]
      have : M.1 44 l = N.1 1 (8 + (5 + l)) := (k1 l (by omega)).1
      rw [show 8 + (5 + l) = 13 + l by omega] at this
      exact sI this
    · refine Cl_of rfl (Nat.le_of_ble_eq_true rfl) rfl (gX11_use_0 ⟨fun y => bb z y, fun y => ?_⟩)
      rw [e, nI_clamp (by omega)]
      exact ⟨vp_in_nI (by omega) (by omega), rfl, pe.rf⟩
theorem I_3 {x : Int32} : ¬ 3 ≤ x ↔ x ≤ 2 := by rw [I_le, I_le, show (3 : Int32).toInt = 3 from rfl, show (2 : Int32).toInt = 2 from rfl]; omega
theorem op_status (h : RX B M N) (x : Int32) : OP 200 mX10_status mX11_status [.int x] B M N := by
  obtain ⟨W, S, T, Wk, Sk, Tk, -, -, -, -, -, h6⟩ := id h
  cases z : iin x 0 2 with
  | false =>
    refine op_ro (v := some (.int (-2))) h ?_ ?_
    · refine Cl_of rfl (Nat.le_of_ble_eq_true rfl) rfl (gX10_status_0 ⟨fun _ => ⟨rfl, xq.rf⟩, fun a => ⟨fun _ => ⟨rfl, xq.rf⟩, fun b => ?_⟩⟩)
      exact absurd ⟨I_nlt.mp a, I_3.mp b⟩ (iin_f.mp z)
    · exact Cl_of rfl (Nat.le_of_ble_eq_true rfl) rfl (gX11_status_0 ⟨fun _ => ⟨rfl, pe.rf⟩, fun y => bb z y⟩)
  | true =>
    obtain ⟨l, hl, rfl⟩ := (iin_lit 2 (by omega)).mp z
    refine op_ro (v := some (.int (N.1 3 l))) h ?_ ?_
    · refine Cl_of rfl (Nat.le_of_ble_eq_true rfl) rfl (gX10_status_0 ⟨fun y => absurd y (nI_pos (by omega)), fun a => ⟨fun y => absurd y (I_3.mpr (iin_t.mp z).2), fun b => ⟨vp_in_nI (by omega) (by omega), ?_, xq.rf⟩⟩⟩)
      rw [nI_clamp (by omega)]
      exact sI (h6.1 l (by omega)).1
    · refine Cl_of rfl (Nat.le_of_ble_eq_true rfl) rfl (gX11_status_0 ⟨fun y => bb z y, fun y => ⟨vp_in_nI (by omega) (by omega), ?_, pe.rf⟩⟩)
      rw [nI_clamp (by omega)]
theorem op_about (h : RX B M N) (x : Int32) : OP 200 mX10_about mX11_about [.int x] B M N := by
  obtain ⟨W, S, T, Wk, Sk, Tk, ⟨⟨⟨a1, a2, a3⟩, ⟨b1, b2, b3⟩, ⟨-, lc, wn, k, e, -, -, -, -, ⟨-, m1, m2⟩, -⟩, n0⟩, e1, e2, -⟩, -, -, -, ⟨n, t1, t2, t3, -⟩, -⟩ := id h
  obtain ⟨-, ⟨T2, -, n3, n4, n5, -⟩, ⟨p, -, p1, p2, -⟩, ⟨r, -, r1, r2, -⟩, hh, -, q1, q2, -⟩ := n0
  refine op_ro (v := some (.int (if iin x 0 7 = true then N.1 1 x.toNatClampNeg else if x = 8 then N.1 0 5 else -2))) h ?_ ?_
  · refine Cl_of rfl (Nat.le_of_ble_eq_true rfl) rfl (gX10_about_0 ⟨?_, ?_, ?_, ?_, ?_, ?_, ?_, ?_, ?_, ?_⟩)
    · rintro rfl; exact ⟨sI (e1.trans a2.symm), xq.rf⟩
    · rintro rfl; exact ⟨sI (e2.trans b2.symm), xq.rf⟩
    · rintro rfl; exact ⟨sI (n3.trans n4.symm), xq.rf⟩
    · rintro rfl; exact ⟨sI n5, xq.rf⟩
    · rintro rfl; exact ⟨sI (m1.trans m2.symm), xq.rf⟩
    · rintro rfl; exact ⟨sI (p1.trans p2.symm), xq.rf⟩
    · rintro rfl; exact ⟨sI (r1.trans r2.symm), xq.rf⟩
    · rintro rfl; exact ⟨sI (q1.trans q2.symm), xq.rf⟩
    · rintro rfl; exact ⟨sI (t2.trans t3.symm), xq.rf⟩
    · rintro ⟨c0, c1, c2, c3, c4, c5, c6, c7, c8⟩
      refine ⟨?_, xq.rf⟩
      have z : ¬ iin x 0 7 = true := by
        intro y
        obtain ⟨j, hj, rfl⟩ := (iin_lit 7 (by omega)).mp y
        have : j = 0 ∨ j = 1 ∨ j = 2 ∨ j = 3 ∨ j = 4 ∨ j = 5 ∨ j = 6 ∨ j = 7 := by omega
        rcases this with rfl | rfl | rfl | rfl | rfl | rfl | rfl | rfl
        · exact c0 rfl
        · exact c1 rfl
        · exact c2 rfl
        · exact c3 rfl
        · exact c4 rfl
        · exact c5 rfl
        · exact c6 rfl
        · exact c7 rfl
      rw [if_neg z, if_neg c8]
  · refine Cl_of rfl (Nat.le_of_ble_eq_true rfl) rfl (gX11_about_0 ⟨fun z => ⟨fun y => ?_, fun y => ?_⟩, fun z => ⟨?_, ?_, pe.rf⟩⟩)
    · exact ⟨by rw [if_neg (by rw [z]; decide), if_neg y], pe.rf⟩
    · exact ⟨by rw [if_neg (by rw [z]; decide), if_pos y], pe.rf⟩
    · obtain ⟨j, hj, rfl⟩ := (iin_lit 7 (by omega)).mp z
      exact vp_in_nI (by omega) (by omega)
    · rw [if_pos z]
theorem op_fault (h : RX B M N) (x : Int32) : OP 200 mX10_fault mX11_fault [.int x] B M N := by
  obtain ⟨W, S, T, Wk, Sk, Tk, -, -, -, -, -, -, h6⟩ := id h
  refine op_ro (v := some (.int (if x = 0 then N.1 0 6 else if x = 1 then N.1 0 7 else -1))) h ?_ ?_
  · refine Cl_of rfl (Nat.le_of_ble_eq_true rfl) rfl (gX10_fault_0 ⟨fun a => ?_, fun a => ⟨fun b => ?_, fun b => ⟨fun c => ⟨fun e => ?_, fun e => ?_⟩, fun c => ?_⟩⟩⟩)
    · rcases h6 with ⟨-, q1, q2⟩ | ⟨q, -⟩
      · refine ⟨sI ?_, xq.rf⟩
        rw [q1, q2]
        split
        · rfl
        · split <;> rfl
      · rw [a] at q; cases q
    · refine ⟨sI ?_, xq.rf⟩
      rw [if_neg (fun z => by rw [z] at b; revert b; decide), if_neg (fun z => by rw [z] at b; revert b; decide)]
    · rcases h6 with ⟨q, -⟩ | ⟨-, q1, q2⟩
      · exact absurd q a
      · refine ⟨sI ?_, xq.rf⟩
        obtain ⟨j, hj, rfl⟩ := nI_of b
        have : j ≤ 1 := (nI_leI hj (b := 1) (by omega)).mp c
        have : j = 1 := by
          have : j ≠ 0 := fun z => e (by rw [z]; rfl)
          omega
        subst this
        exact q2
    · rcases h6 with ⟨q, -⟩ | ⟨-, q1, q2⟩
      · exact absurd q a
      · exact ⟨sI (by rw [if_pos e]; exact q1), xq.rf⟩
    · refine ⟨sI ?_, xq.rf⟩
      rw [if_neg (fun z => by rw [z] at c; revert c; decide), if_neg (fun z => by rw [z] at c; revert c; decide)]
  · refine Cl_of rfl (Nat.le_of_ble_eq_true rfl) rfl (gX11_fault_0 ⟨fun a => ⟨fun b => ?_, fun b => ?_⟩, fun a => ?_⟩)
    · exact ⟨by rw [if_neg a, if_neg b], pe.rf⟩
    · exact ⟨by rw [if_neg a, if_pos b], pe.rf⟩
    · exact ⟨by rw [if_pos a], pe.rf⟩
theorem RX_dn {B2 : Nat} {M2 N2 : ev_Mem} {W S T Wk Sk Tk : Nat} (hB : B ≤ B2)
    (h1 : stRel B2 M2 W S 43 47 (N2.1 1) ∧ N2.1 1 2 = nI T ∧ T ≤ 4) (hd : M.1 3 5 = nI W ∧ M.1 3 8 = nI S)
    (h : (stRel B M Wk Sk 100 104 (N.1 2) ∧ M.1 0 16 = nI Wk ∧ M.1 0 17 = nI Sk ∧ N.1 2 2 = nI Tk) ∧ (Wk ≤ W ∧ Sk ≤ S ∧ Tk ≤ T) ∧ (∀ t, t < T → txtR M N t) ∧ tRel M N ∧ fRel M N)
    (c1 : ∀ k, k < 43 → M2.1 k = M.1 k) (c2 : ∀ k, 60 ≤ k → k < 82 → M2.1 k = M.1 k) (c3 : ∀ k, 100 ≤ k → k < 118 → M2.1 k = M.1 k) (n : ∀ k, k ≤ 5 → k ≠ 1 → N2.1 k = N.1 k) : RX B2 M2 N2 := by
  have hT := h1.2.2
  have e := RX_kp (M2 := M2) (N2 := N2) hB h c1 (fun k q1 q2 => c2 k q1 (by omega)) (fun k q1 q2 => c3 k q1 (by omega)) (fun j _ => by rw [c2 81 (by omega) (by omega)]) (n 2 (by omega) (by omega)) (n 4 (by omega) (by omega)) (n 5 (by omega) (by omega)) (fun j _ _ => by rw [n 0 (by omega) (by omega)]) (fun i hi => by rw [c3 117 (by omega) (by omega), n 3 (by omega) (by omega)]; exact h.2.2.2.2.1 i hi)
  exact ⟨W, S, T, Wk, Sk, Tk, ⟨h1.1, by rw [c1 3 (by omega)]; exact hd.1, by rw [c1 3 (by omega)]; exact hd.2, h1.2.1, hT⟩, e.1, e.2.1, fun t ht => e.2.2.1 t ht (by omega), e.2.2.2⟩
theorem wr_up {k j : Nat} {v : Int32} : (ev_wr N k j v).1 k = upd (N.1 k) j v := wr_row
theorem op_clear (h : RX B M N) : OP 200 mX10_clear mX11_clear [] B M N := by
  refine ⟨some (.int 0), vok _, ev_wr N 1 6 0, Cl_of rfl (Nat.le_of_ble_eq_true rfl) rfl (gX10_clear_0 fun M1 e1 => ⟨rfl, ?_⟩), Cl_of rfl (Nat.le_of_ble_eq_true rfl) rfl (gX11_clear_0 fun M1 e1 => ⟨rfl, by rw [e1]; exact pe.rf⟩)⟩
  obtain ⟨W, S, T, Wk, Sk, Tk, h1, h2, h3, h4, h5, h6⟩ := h
  rw [e1]
  refine RX_dn (B := B) (M := M) (N := N) (T := T) (by omega) ⟨stRel_up (B := B) (by omega) ?_, by rw [wr_ne (by omega)]; exact h1.2.2.2.1, h1.2.2.2.2⟩ ⟨h1.2.1, h1.2.2.1⟩ ⟨h2, h3, h4, h5, h6⟩ (fun k _ => wr_cell (by omega)) (fun k _ _ => wr_cell (by omega)) (fun k _ _ => wr_cell (by omega)) (fun k _ _ => wr_cell (by omega))
  refine stRel_dn h1.1 (fun k _ => wr_cell (by omega)) (fun k _ _ => wr_cell (by omega)) (wr_ne (by omega)) ⟨wr_ne (by omega), wr_ne (by omega)⟩ (fun i _ => wr_ne (by omega)) ?_
  obtain ⟨q1, q2, q3, q4, q5⟩ := nRel_iff.mp h1.1.2.2.2
  rw [wr_up]
  refine nRel_iff.mpr ⟨?_, ?_, ?_, ?_, ?_⟩
  · rw [wr_cell (by omega), wr_cell (by omega)]
    exact nR1_cg (fun i _ _ => upd_ne (by omega)) q1
  · rw [wr_ne (by omega), wr_ne (by omega)]
    exact nR2_cg (upd_ne (by omega)) (upd_ne (by omega)) q2
  · rw [wr_ne (by omega), wr_cell (by omega)]
    exact nR3_cg (Nat.le_refl _) (upd_ne (by omega)) (fun i _ _ => upd_ne (by omega)) q3
  · exact ⟨0, by omega, wr_same, upd_eq, fun i hi => absurd hi (by omega)⟩
  · rw [wr_ne (by omega), wr_cell (by omega), wr_cell (by omega)]
    exact nR5_cg (Nat.le_refl _) (upd_ne (by omega)) (fun i _ _ => upd_ne (by omega)) q5
theorem op_end (h : RX B M N) (x : Int32) : OP 200 mX10_end mX11_end [.int x] B M N := by
  obtain ⟨W, S, T, Wk, Sk, Tk, h1, h2, h3, h4, ⟨n, t1, t2, t3, t4⟩, h6⟩ := id h
  cases z : iin x 0 (N.1 0 5) with
  | false =>
    refine op_ro (v := some (.int (-1))) h ?_ ?_
    · refine Cl_of rfl (Nat.le_of_ble_eq_true rfl) rfl (gX10_end_0 ⟨fun _ => ⟨rfl, xq.rf⟩, fun a => ⟨fun b => ?_, fun _ => ⟨rfl, xq.rf⟩⟩⟩)
      rw [t2, ← t3] at b
      exact absurd ⟨I_nlt.mp a, b⟩ (iin_f.mp z)
    · exact Cl_of rfl (Nat.le_of_ble_eq_true rfl) rfl (gX11_end_0 ⟨fun y => bb z y, fun _ => ⟨rfl, pe.rf⟩⟩)
  | true =>
    obtain ⟨y1, y2⟩ := iin_t.mp z
    rw [t3] at y2
    obtain ⟨j, hj, rfl⟩ := nI_of (x := x) (I_nlt.mpr y1)
    have hjn : j ≤ n := (nI_leI hj (by omega)).mp y2
    refine ⟨some (.int (nI j)), vok _, ev_wr N 0 5 (nI j), Cl_of rfl (Nat.le_of_ble_eq_true rfl) rfl (gX10_end_0 ⟨fun y => absurd y (nI_pos (by omega)), fun a => ⟨fun b M1 e1 => ⟨rfl, ?_⟩, fun b => absurd (by rw [t2]; exact y2) b⟩⟩), Cl_of rfl (Nat.le_of_ble_eq_true rfl) rfl (gX11_end_0 ⟨fun _ M1 e1 => ⟨rfl, by rw [e1]; exact pe.rf⟩, fun y => bb z y⟩)⟩
    rw [e1]
    have c : ∀ k, k ≠ 1 → M.1 k = (ev_wr M 1 1 (nI j)).1 k := fun k hk => (wr_cell hk).symm
    refine ⟨W, S, T, Wk, Sk, Tk, ⟨?_, by rw [← c 3 (by omega)]; exact h1.2.1, by rw [← c 3 (by omega)]; exact h1.2.2.1, by rw [wr_cell (by omega)]; exact h1.2.2.2⟩, ⟨?_, by rw [← c 0 (by omega), wr_cell (by omega)]; exact h2.2⟩, h3, fun t ht => txtR_cg (fun i _ _ => c i (by omega)) (wr_cell (by omega)).symm (h4 t ht), ⟨j, by omega, wr_same, wr_same, fun i hi => ?_⟩, ?_⟩
    · rw [wr_cell (by omega)]
      obtain ⟨⟨q1, q2, q3⟩, ⟨q4, q5, q6⟩, q7, q8⟩ := h1.1
      exact stRel_up (by omega) ⟨⟨q1, q2, fun w hw => wRel_cg (by omega) (fun k _ _ => c k (by omega)) (fun _ _ _ => rfl) (q3 w hw)⟩, ⟨q4, q5, fun s hs => sRel_cg (by omega) (fun k _ _ => c k (by omega)) (fun _ _ _ => rfl) (q6 s hs)⟩, mRel_cg (fun k _ _ => c k (by omega)) rfl (fun _ _ _ => rfl) (fun _ _ _ => rfl) q7, nRel_cg (Nat.le_refl _) (fun k _ _ => c k (by omega)) rfl rfl (fun _ _ _ => rfl) (fun _ _ _ => rfl) q8⟩
    · rw [wr_cell (by omega)]
      obtain ⟨⟨q1, q2, q3⟩, ⟨q4, q5, q6⟩, q7, q8⟩ := h2.1
      exact stRel_up (by omega) ⟨⟨q1, q2, fun w hw => wRel_cg (by omega) (fun k _ _ => c k (by omega)) (fun _ _ _ => rfl) (q3 w hw)⟩, ⟨q4, q5, fun s hs => sRel_cg (by omega) (fun k _ _ => c k (by omega)) (fun _ _ _ => rfl) (q6 s hs)⟩, mRel_cg (fun k _ _ => c k (by omega)) rfl (fun _ _ _ => rfl) (fun _ _ _ => rfl) q7, nRel_cg (Nat.le_refl _) (fun k _ _ => c k (by omega)) rfl rfl (fun _ _ _ => rfl) (fun _ _ _ => rfl) q8⟩
    · rw [wr_cell (by omega), wr_cell (by omega)]
      exact t4 i (by omega)
    · unfold fRel
      rw [← c 117 (by omega), ← c 81 (by omega), wr_cell (by omega), wr_ne (by omega), wr_ne (by omega)]
      exact h6
end
