/-! CALLS: feed, report -/
section
variable {d B : Nat} {M N : ev_Mem} {W T S s f : Nat} {lo : Int32}
def byt (x : Int32) (s : Nat) : Int32 := (x >>> (nI s &&& 31)) &&& 255
theorem byt_u {x : Int32} {s : Nat} (hs : s ≤ 24) : (x.toUInt32 >>> ((nI s).toUInt32 &&& Int32.toUInt32 31)).toInt32 &&& 255 = byt x s := by
  unfold byt
  refine b_ext fun i hi => ?_
  rw [b_and, b_and, b_255, b_ushr s (by omega)]
  by_cases e : i < 8
  · rw [b_sshr s (by omega) x hi, if_pos (by omega)]
  · rw [decide_eq_false e, Bool.and_false, Bool.and_false]
theorem byt_up {x : Int32} {s : Nat} : upto (byt x s) 255 := by
  obtain ⟨j, hj, e⟩ := pk_andE (x >>> (nI s &&& 31)) (m := 255) 8 rfl
  exact ⟨j, by omega, e⟩
/-- k bytes of a number behind n: the tape's length at cell c, place f, its bytes at cell r -/
def pto (c f r : Nat) (M M2 : ev_Mem) (n : Nat) (x : Int32) (k : Nat) : Prop := M2.1 c f = nI (n + k) ∧ (∀ j, j ≠ f → M2.1 c j = M.1 c j) ∧ (∀ e, e ≠ c → e ≠ r → M2.1 e = M.1 e) ∧ (∀ i, i < n → M2.1 r i = M.1 r i) ∧ ∀ j, j < k → M2.1 r (n + j) = byt x (24 - 8 * j)
theorem pto_s {c f r n k : Nat} {x : Int32} {M2 M3 M4 : ev_Mem} (hcr : c ≠ r) (h : pto c f r M M2 n x k) (e3 : M3 = ev_wr M2 r (n + k) (byt x (24 - 8 * k))) (e4 : M4 = ev_wr M3 c f (nI (n + k + 1))) : pto c f r M M4 n x (k + 1) := by
  obtain ⟨h1, h2, h3, h4, h5⟩ := h
  refine ⟨by rw [e4, wr_same]; rfl, fun j hj => ?_, fun e q1 q2 => ?_, fun i hi => ?_, fun j hj => ?_⟩
  · rw [e4, wr_ne (by omega), e3, wr_cell hcr]; exact h2 j hj
  · rw [e4, wr_cell q1, e3, wr_cell q2]; exact h3 e q1 q2
  · rw [e4, wr_cell (Ne.symm hcr), e3, wr_ne (by omega)]; exact h4 i hi
  · rw [e4, wr_cell (Ne.symm hcr), e3]
    by_cases e : j = k
    · rw [e, wr_same]
    · rw [wr_ne (by omega)]; exact h5 j (by omega)
theorem m8 {k : Nat} (h : k < 3) : nI (24 - 8 * k) + (-8) = nI (24 - 8 * (k + 1)) := by
  have : k = 0 ∨ k = 1 ∨ k = 2 := by omega
  rcases this with rfl | rfl | rfl <;> rfl
theorem kX7_put {n : Nat} {x : Int32} (hn : n + 4 ≤ 300) (hM : M.1 1 1 = nI n) : Cl LX d mX7_put [.ref 1, .int x] M (fun r M2 => r = none ∧ pto 1 1 2 M M2 n x 4) := by
  refine Cl_of rfl (Nat.le_of_ble_eq_true rfl) rfl (gX7_put_0 ?_)
  have st : ∀ k, k < 4 → ∀ M2, pto 1 1 2 M M2 n x k → (∀ M4, pto 1 1 2 M M4 n x (k + 1) → Ev LX d mX7_put 3 [some (.ref 1), some (.int x), some (.int (nI (24 - 8 * k) + (-8)))] [] M4 (fun r M2 => r = none ∧ pto 1 1 2 M M2 n x 4)) → Ev LX d mX7_put 3 [some (.ref 1), some (.int x), some (.int (nI (24 - 8 * k)))] [] M2 (fun r M2 => r = none ∧ pto 1 1 2 M M2 n x 4) := by
    intro k hk M2 hp nx
    refine gX7_put_3 ⟨fun z => absurd z (nI_pos (by omega)), fun _ => ?_⟩
    rw [hp.1]
    refine ⟨fun z => absurd z (nI_ge (b := 300) (by omega) (by omega)), fun _ => ⟨vp_in_nI (by omega) (by omega), fun M3 e3 M4 e4 => ?_⟩⟩
    rw [byt_u (by omega), nI_clamp (by omega)] at e3
    have g : M3.1 1 1 = nI (n + k) := by rw [e3, wr_cell (by omega)]; exact hp.1
    rw [g, nI_1] at e4
    exact nx M4 (pto_s (by omega) hp e3 e4)
  have lp : ∀ k, k ≤ 3 → ∀ M2, pto 1 1 2 M M2 n x k → Ev LX d mX7_put 3 [some (.ref 1), some (.int x), some (.int (nI (24 - 8 * k)))] [] M2 (fun r M2 => r = none ∧ pto 1 1 2 M M2 n x 4) := by
    refine dn ?_ (fun k hk ih => ?_)
    · intro M2 hp
      exact st 3 (by omega) M2 hp (fun M4 hp4 => gX7_put_3 ⟨fun _ => ⟨rfl, hp4⟩, fun z => absurd (by decide) z⟩)
    · intro M2 hp
      refine st k (by omega) M2 hp (fun M4 hp4 => ?_)
      rw [m8 hk]; exact ih M4 hp4
  exact lp 0 (by omega) M ⟨hM, fun _ _ => rfl, fun _ _ _ => rfl, fun _ _ => rfl, fun j hj => absurd hj (by omega)⟩
theorem kX11_four {n : Nat} {x : Int32} (hn : n + 4 ≤ 300) (hN : N.1 0 5 = nI n) : Cl LM d mX11_four [.ref 0, .int x] N (fun r N2 => r = none ∧ pto 0 5 5 N N2 n x 4) := by
  refine Cl_of rfl (Nat.le_of_ble_eq_true rfl) rfl (gX11_four_0 ?_)
  have st : ∀ k, k < 4 → ∀ M2, pto 0 5 5 N M2 n x k → (∀ M4, pto 0 5 5 N M4 n x (k + 1) → Ev LM d mX11_four 3 [some (.ref 0), some (.int x), some (.int (nI (24 - 8 * k) + (-8)))] [] M4 (fun r M2 => r = none ∧ pto 0 5 5 N M2 n x 4)) → Ev LM d mX11_four 3 [some (.ref 0), some (.int x), some (.int (nI (24 - 8 * k)))] [] M2 (fun r M2 => r = none ∧ pto 0 5 5 N M2 n x 4) := by
    intro k hk M2 hp nx
    refine gX11_four_3 ⟨fun z => absurd z (nI_pos (by omega)), fun _ => ?_⟩
    rw [hp.1]
    refine ⟨vp_in_nI (by omega) (by omega), fun M3 e3 M4 e4 => ?_⟩
    rw [nI_clamp (by omega)] at e3
    have g : M3.1 0 5 = nI (n + k) := by rw [e3, wr_cell (by omega)]; exact hp.1
    rw [g, nI_1] at e4
    exact nx M4 (pto_s (by omega) hp e3 e4)
  have lp : ∀ k, k ≤ 3 → ∀ M2, pto 0 5 5 N M2 n x k → Ev LM d mX11_four 3 [some (.ref 0), some (.int x), some (.int (nI (24 - 8 * k)))] [] M2 (fun r M2 => r = none ∧ pto 0 5 5 N M2 n x 4) := by
    refine dn ?_ (fun k hk ih => ?_)
    · intro M2 hp
      exact st 3 (by omega) M2 hp (fun M4 hp4 => gX11_four_3 ⟨fun _ => ⟨rfl, hp4⟩, fun z => absurd (by decide) z⟩)
    · intro M2 hp
      refine st k (by omega) M2 hp (fun M4 hp4 => ?_)
      rw [m8 hk]; exact ih M4 hp4
  exact lp 0 (by omega) N ⟨hN, fun _ _ => rfl, fun _ _ _ => rfl, fun _ _ => rfl, fun j hj => absurd hj (by omega)⟩
theorem RX_four {n : Nat} {x : Int32} {M2 N2 : ev_Mem} (h : RX B M N) (hn : n + 4 ≤ 300) (hM : M.1 1 1 = nI n) (hx : pto 1 1 2 M M2 n x 4) (hm : pto 0 5 5 N N2 n x 4) : RX B M2 N2 := by
  obtain ⟨n2, t1, t2, t3, t4⟩ := RX_tr h
  have e : n2 = n := (nI_eq (by omega) (by omega)).mp (t2.symm.trans hM)
  subst e
  obtain ⟨a1, a2, a3, a4, a5⟩ := hx
  obtain ⟨b1, b2, b3, b4, b5⟩ := hm
  refine RX_tp h (fun k _ k1 k2 _ => a3 k k1 k2) (fun k k1 k2 => b3 k (by omega) (by omega)) ⟨b2 6 (by omega), b2 7 (by omega)⟩ ⟨n2 + 4, hn, a1, b1, fun i hi => ?_⟩
  by_cases q : i < n2
  · rw [a4 i q, b4 i q]; exact t4 i q
  · obtain ⟨j, rfl⟩ : ∃ j, i = n2 + j := ⟨i - n2, by omega⟩
    rw [a5 j (by omega), b5 j (by omega)]
    exact ⟨rfl, byt_up⟩
theorem op_feed (h : RX B M N) (a b c e f : Int32) : OQ 200 mX10_feed mX11_feed [.int a, .int b, .int c, .int e, .int f] B M N := by
  obtain ⟨n, n300, tM, tN, tt⟩ := RX_tr h
  have e20 : nI n + 20 = nI (n + 20) := by rw [show (20 : Int32) = nI 20 from rfl, nI_add]
  by_cases hn : n + 20 ≤ 300
  · refine ⟨some (.int (nI (n + 20))), vok _, fun M5 => ∃ M1 M2 M3 M4, pto 1 1 2 M M1 n a 4 ∧ pto 1 1 2 M1 M2 (n + 4) b 4 ∧ pto 1 1 2 M2 M3 (n + 8) c 4 ∧ pto 1 1 2 M3 M4 (n + 12) e 4 ∧ pto 1 1 2 M4 M5 (n + 16) f 4, fun N5 => ∃ N1 N2 N3 N4, pto 0 5 5 N N1 n a 4 ∧ pto 0 5 5 N1 N2 (n + 4) b 4 ∧ pto 0 5 5 N2 N3 (n + 8) c 4 ∧ pto 0 5 5 N3 N4 (n + 12) e 4 ∧ pto 0 5 5 N4 N5 (n + 16) f 4, ?_, ?_, ?_⟩
    · refine Cl_of rfl (Nat.le_of_ble_eq_true rfl) rfl (gX10_feed_0 (d := 199) ⟨fun _ => ⟨_, kX7_put (d := 199) (by omega) tM, fun zr M1 q1 => ?_⟩, fun z => absurd (by rw [tM, e20]; exact nI_le (b := 300) hn (by omega)) z⟩)
      rw [q1.1]
      refine gX10_feed_26 (d := 199) ⟨_, kX7_put (d := 199) (by omega) q1.2.1, fun zr M2 q2 => ?_⟩
      rw [q2.1]
      refine gX10_feed_34 (d := 199) ⟨_, kX7_put (d := 199) (by omega) q2.2.1, fun zr M3 q3 => ?_⟩
      rw [q3.1]
      refine gX10_feed_42 (d := 199) ⟨_, kX7_put (d := 199) (by omega) q3.2.1, fun zr M4 q4 => ?_⟩
      rw [q4.1]
      refine gX10_feed_51 (d := 199) ⟨_, kX7_put (d := 199) (by omega) q4.2.1, fun zr M5 q5 => ?_⟩
      rw [q5.1]
      exact gX10_feed_60 ⟨by rw [q5.2.1], M1, M2, M3, M4, q1.2, q2.2, q3.2, q4.2, q5.2⟩
    · refine Cl_of rfl (Nat.le_of_ble_eq_true rfl) rfl (gX11_feed_0 (d := 199) ⟨fun _ => ⟨_, kX11_four (d := 199) (by omega) tN, fun zr M1 q1 => ?_⟩, fun z => absurd (by rw [tN, e20]; exact nI_le (b := 300) hn (by omega)) z⟩)
      rw [q1.1]
      refine gX11_feed_20 (d := 199) ⟨_, kX11_four (d := 199) (by omega) q1.2.1, fun zr M2 q2 => ?_⟩
      rw [q2.1]
      refine gX11_feed_25 (d := 199) ⟨_, kX11_four (d := 199) (by omega) q2.2.1, fun zr M3 q3 => ?_⟩
      rw [q3.1]
      refine gX11_feed_30 (d := 199) ⟨_, kX11_four (d := 199) (by omega) q3.2.1, fun zr M4 q4 => ?_⟩
      rw [q4.1]
      refine gX11_feed_36 (d := 199) ⟨_, kX11_four (d := 199) (by omega) q4.2.1, fun zr M5 q5 => ?_⟩
      rw [q5.1]
      exact gX11_feed_42 ⟨by rw [q5.2.1], M1, M2, M3, M4, q1.2, q2.2, q3.2, q4.2, q5.2⟩
    · rintro M5 N5 ⟨M1, M2, M3, M4, x1, x2, x3, x4, x5⟩ ⟨N1, N2, N3, N4, m1, m2, m3, m4, m5⟩
      have r1 := RX_four h (by omega) tM x1 m1
      have r2 := RX_four r1 (by omega) x1.1 x2 m2
      have r3 := RX_four r2 (by omega) x2.1 x3 m3
      have r4 := RX_four r3 (by omega) x3.1 x4 m4
      exact RX_up (by omega) (RX_four r4 (by omega) x4.1 x5 m5)
  · refine (op_ro (v := some (.int (-1))) h ?_ ?_).oq
    · refine Cl_of rfl (Nat.le_of_ble_eq_true rfl) rfl (gX10_feed_0 (d := 199) ⟨fun z => ?_, fun _ => ⟨rfl, xq.rf⟩⟩)
      rw [tM, e20] at z
      exact absurd ((nI_leI (b := 300) (by omega) (by omega)).mp z) hn
    · refine Cl_of rfl (Nat.le_of_ble_eq_true rfl) rfl (gX11_feed_0 (d := 199) ⟨fun z => ?_, fun _ => ⟨rfl, pe.rf⟩⟩)
      rw [tN, e20] at z
      exact absurd ((nI_leI (b := 300) (by omega) (by omega)).mp z) hn
def rcd (b : Int32) : Int32 := if b = 45 then 26 else b - 97
theorem rcd_r {b : Int32} (h : (iin b 97 122 || (true && decide (b = 45))) = true) : rRel b (rcd b) := by
  unfold rcd
  by_cases e : b = 45
  · rw [if_pos e]; exact Or.inl ⟨e, rfl⟩
  · rw [if_neg e]
    rw [decide_eq_false e, Bool.and_false, Bool.or_false] at h
    obtain ⟨b1, b2⟩ := iin_t.mp h
    obtain ⟨n, hn, rfl⟩ := nI_of (x := b) (by rw [I_lt, I_0]; rw [I_le, show (97 : Int32).toInt = 97 from rfl] at b1; omega)
    have l1 := (nI_leI (a := 97) (by omega) hn).mp b1
    have l2 := (nI_leI (b := 122) hn (by omega)).mp b2
    exact Or.inr ⟨n - 97, by omega, by rw [show 97 + (n - 97) = n by omega], by rw [show (97 : Int32) = nI 97 from rfl, pk_sub l1]⟩
theorem op_report (h : RX B M N) : OQ 200 mX10_report mX11_report [] B M N := by
  obtain ⟨n, n300, tM, tN, tt⟩ := RX_tr h
  obtain ⟨W, S, T, Wk, Sk, Tk, h1, h2⟩ := id h
  obtain ⟨q1, q2, q3, q4, q5⟩ := nRel_iff.mp h1.1.2.2.2
  obtain ⟨r, hr5, hr, hr6, hA⟩ := id q4
  have es : spv (M.1 2) n true = spv (N.1 5) n true := spv_cg fun i hi => (tt i hi).1
  have sx : ∀ d, Cl LX (d + 1) mX7_spells [.ref 1, .int 1] M (ev_R (some (.int (bi (spv (N.1 5) n true)))) M) := fun d => by
    have := kX7_spells (d := d) (ho := true) n300 tM
    rw [es, bi_t] at this
    exact this
  let p : Nat → Bool := fun i => iin (N.1 5 i) 97 122 || (true && decide (N.1 5 i = 45))
  have e19 : iin (nI n) 1 9 = (decide (1 ≤ n) && decide (n ≤ 9)) := by
    unfold iin
    show (decide (nI 1 ≤ nI n) && decide (nI n ≤ nI 9)) = _
    rw [decide_eq_decide.mpr (nI_leI (a := 1) (b := n) (by omega) (by omega)), decide_eq_decide.mpr (nI_leI (a := n) (b := 9) (by omega) (by omega))]
  -- the model's first loop
  have ml : ∀ Q : Option Value → ev_Mem → Prop, Ev LM 200 mX11_report 13 [some (.ref 0), some (.int (bi (spv (N.1 5) n true))), some (.int (nI n)), none] [] N Q → Cl LM 200 mX11_report [.ref 0] N Q := by
    intro Q hQ
    refine Cl_of rfl (Nat.le_of_ble_eq_true rfl) rfl (gX11_report_0 (d := 199) fun v1 e1 => ?_)
    rw [tN, e19] at e1
    rw [e1]
    have lp : ∀ i, i ≤ n → Ev LM 200 mX11_report 13 [some (.ref 0), some (.int (bi ((decide (1 ≤ n) && decide (n ≤ 9)) && al p i))), some (.int (nI i)), none] [] N Q := by
      refine dn hQ (fun i hi ih => ?_)
      obtain ⟨b1, b2⟩ := btA_at tN n300 hi
      have pe1 : p i = (iin (N.1 5 i) 97 122 || decide (N.1 5 i = 45)) := rfl
      rw [al, ← Bool.and_assoc] at ih
      refine gX11_report_13 (d := 199) ⟨fun z => ?_, fun _ => ⟨fun z => ?_, fun z => ⟨b2, ?_⟩⟩⟩
      · rw [tN] at z; exact absurd z (nI_ge hi (by omega))
      · rw [(bi_0 _).mp z, Bool.false_and] at ih
        rw [nI_1]; exact ih
      · rw [(bi_n0 _).mp z, Bool.true_and, pe1] at ih
        rw [b1]
        refine ⟨fun y => ?_, fun y => ⟨b2, fun w => ?_, fun w => ?_⟩⟩
        · rw [y, Bool.true_or] at ih; rw [nI_1]; exact ih
        · rw [y, decide_eq_false w, Bool.false_or] at ih; rw [nI_1]; exact ih
        · rw [y, decide_eq_true w, Bool.false_or] at ih; rw [nI_1]; exact ih
    have := lp 0 (by omega)
    rw [al, Bool.and_true] at this
    exact this
  by_cases good : spv (N.1 5) n true = true
  · obtain ⟨⟨n1, n9⟩, ga⟩ : (1 ≤ n ∧ n ≤ 9) ∧ ∀ i, i < n → p i = true := by
      unfold spv at good
      rw [Bool.and_eq_true, Bool.and_eq_true, decide_eq_true_eq, decide_eq_true_eq, al_t] at good
      exact good
    by_cases h5 : r = 5
    · refine oq_rf (r := 1) (v := some (.int (-1))) (by omega) h ?_ ?_
      · refine Cl_of rfl (Nat.le_of_ble_eq_true rfl) rfl (gX10_report_0 (d := 199) ⟨_, sx 198, fun zr M2 q => ?_⟩)
        rw [q.1, q.2, good]
        have fin : ∀ M1, M1 = rfs M 117 (1 : Int32).toNatClampNeg → (some (Value.int (-1)) = some (Value.int (-1)) ∧ xq (rfs M 117 1) M1) := fun M1 e1 => ⟨rfl, by rw [e1, c1]; exact xq.rf⟩
        refine gX10_report_8 (d := 199) ⟨fun _ => ⟨fun _ => ⟨v13, fin⟩, fun _ => ⟨fun z => ?_, fun _ => ⟨v13, fin⟩⟩⟩, fun z => absurd z (by decide)⟩
        rw [hr, h5] at z; exact absurd z (by decide)
      · refine ml _ ?_
        rw [good]
        refine gX11_report_13 (d := 199) ⟨fun _ => ⟨fun _ => ⟨fun z => absurd (by rw [hr6, h5]; rfl) z, fun _ => ⟨v13, fun M1 e1 => ⟨rfl, by rw [e1, c1]; exact pe.rf⟩⟩⟩, fun z => absurd z (by decide)⟩, fun z => absurd ?_ z⟩
        rw [tN]; exact nI_le (Nat.le_refl _) (by omega)
    · have r5 : r < 5 := by omega
      refine ⟨some (.int (nI (r + 1))), vok _, fun M2 => (∀ k, k ≠ 1 → k ≠ 47 → k ≠ 57 → k ≠ 52 + r → M2.1 k = M.1 k) ∧ (∀ j, j ≠ 8 → M2.1 47 j = M.1 47 j) ∧ M2.1 47 8 = nI (r + 1) ∧ (∀ i, i ≠ r → M2.1 57 i = M.1 57 i) ∧ M2.1 57 r = nI n ∧ (∀ i, i < n → M2.1 (52 + r) i = N.1 5 i) ∧ M2.1 1 1 = 0, fun N2 => (∀ k, 2 ≤ k → k ≤ 5 → N2.1 k = N.1 k) ∧ (∀ j, j ≠ 5 → N2.1 0 j = N.1 0 j) ∧ N2.1 0 5 = 0 ∧ (∀ i, i ≠ 6 → i < 459 + 10 * r ∨ 459 + 10 * r + 10 ≤ i → N2.1 1 i = N.1 1 i) ∧ N2.1 1 6 = nI (r + 1) ∧ N2.1 1 (459 + 10 * r) = nI n ∧ ∀ i, i < n → N2.1 1 (459 + 10 * r + 1 + i) = rcd (N.1 5 i), ?_, ?_, ?_⟩
      · refine Cl_of rfl (Nat.le_of_ble_eq_true rfl) rfl (gX10_report_0 (d := 199) ⟨_, sx 198, fun zr M2 q => ?_⟩)
        rw [q.1, q.2, good]
        refine gX10_report_8 (d := 199) ⟨fun _ => ⟨fun z => ?_, fun _ => ⟨fun _ => ?_, fun z => absurd (by rw [hr]; exact nI_lt (b := 5) r5 (by omega)) z⟩⟩, fun z => absurd z (by decide)⟩
        · rw [hr] at z; exact absurd z (nI_pos (by omega))
        · rw [hr]
          have lp : ∀ i, i ≤ n → ∀ M2, (∀ k, k ≠ 52 + r → M2.1 k = M.1 k) → (∀ j, j < i → M2.1 (52 + r) j = N.1 5 j) → Ev LX 200 mX10_report 42 [some (.ref 0), some (.int (nI r)), some (.int (nI i))] [] M2 (fun z M2 => z = some (.int (nI (r + 1))) ∧ (∀ k, k ≠ 1 → k ≠ 47 → k ≠ 57 → k ≠ 52 + r → M2.1 k = M.1 k) ∧ (∀ j, j ≠ 8 → M2.1 47 j = M.1 47 j) ∧ M2.1 47 8 = nI (r + 1) ∧ (∀ i, i ≠ r → M2.1 57 i = M.1 57 i) ∧ M2.1 57 r = nI n ∧ (∀ i, i < n → M2.1 (52 + r) i = N.1 5 i) ∧ M2.1 1 1 = 0) := by
            refine dn ?_ (fun i hi ih => ?_)
            · intro M2 hc hl
              have t2 : M2.1 1 1 = nI n := by rw [hc 1 (by omega)]; exact tM
              refine gX10_report_42 ⟨fun _ => ⟨vp_in_nI r5 (by omega), fun A1 f1 A2 f2 A3 f3 => ?_⟩, fun z => absurd (by rw [t2]; exact nI_le (Nat.le_refl _) (by omega)) z⟩
              rw [t2, nI_clamp (by omega)] at f1
              rw [nI_1] at f2
              have r57 : A3.1 57 = upd (M2.1 57) r (nI n) := by rw [f3, wr_cell (by omega), f2, wr_cell (by omega), f1, wr_row]
              have r47 : A3.1 47 = upd (M2.1 47) 8 (nI (r + 1)) := by rw [f3, wr_cell (by omega), f2, wr_row, f1, wr_cell (by omega)]
              have rc : ∀ k, k ≠ 1 → k ≠ 47 → k ≠ 57 → A3.1 k = M2.1 k := fun k k1 k2 k3 => by rw [f3, wr_cell k1, f2, wr_cell k2, f1, wr_cell k3]
              refine ⟨by rw [r47, upd_eq], fun k k1 k2 k3 k4 => by rw [rc k k1 k2 k3]; exact hc k k4, fun j hj => by rw [r47, upd_ne hj, hc 47 (by omega)], by rw [r47, upd_eq], fun i hi => by rw [r57, upd_ne hi, hc 57 (by omega)], by rw [r57, upd_eq], fun i hi => by rw [rc (52 + r) (by omega) (by omega) (by omega)]; exact hl i hi, by rw [f3, wr_same]⟩
            · intro M2 hc hl
              have t2 : M2.1 1 1 = nI n := by rw [hc 1 (by omega)]; exact tM
              refine gX10_report_42 ⟨fun z => ?_, fun _ => ⟨vp_in_nI r5 (by omega), vp_in_nI (by omega) (by omega), vp_in_nI (by omega) (by omega), fun A1 f1 => ?_⟩⟩
              · rw [t2] at z; exact absurd z (nI_ge hi (by omega))
              · rw [nI_clamp (by omega), nI_clamp (by omega), hc 2 (by omega), (tt i hi).1] at f1
                rw [nI_1]
                refine ih A1 (fun k hk => by rw [f1, wr_cell hk]; exact hc k hk) (fun j hj => ?_)
                rw [f1, wr_row]
                by_cases e : j = i
                · rw [e, upd_eq]
                · rw [upd_ne e]; exact hl j (by omega)
          exact lp 0 (by omega) M (fun _ _ => rfl) (fun j hj => absurd hj (by omega))
      · refine ml _ ?_
        rw [good]
        refine gX11_report_13 (d := 199) ⟨fun _ => ⟨fun _ => ⟨fun _ => ?_, fun z => absurd ((nI_eq (b := 5) (by omega) (by omega)).mp (hr6.symm.trans z)) h5⟩, fun z => absurd z (by decide)⟩, fun z => absurd (by rw [tN]; exact nI_le (Nat.le_refl _) (by omega)) z⟩
        rw [hr6, i459 r5, nI_clamp (by omega), tN]
        refine ⟨vp_in_nI (by omega) (by omega), fun N4 e4 => ?_⟩
        have lp : ∀ i, i ≤ n → ∀ N5, (∀ k, k ≠ 1 → N5.1 k = N.1 k) → (∀ j, j < 459 + 10 * r ∨ 459 + 10 * r + 10 ≤ j → N5.1 1 j = N.1 1 j) → N5.1 1 (459 + 10 * r) = nI n → (∀ j, j < i → N5.1 1 (459 + 10 * r + 1 + j) = rcd (N.1 5 j)) → Ev LM 200 mX11_report 116 [some (.ref 0), none, some (.int (nI (459 + 10 * r))), some (.int (nI i))] [] N5 (fun z N2 => z = some (.int (nI (r + 1))) ∧ (∀ k, 2 ≤ k → k ≤ 5 → N2.1 k = N.1 k) ∧ (∀ j, j ≠ 5 → N2.1 0 j = N.1 0 j) ∧ N2.1 0 5 = 0 ∧ (∀ i, i ≠ 6 → i < 459 + 10 * r ∨ 459 + 10 * r + 10 ≤ i → N2.1 1 i = N.1 1 i) ∧ N2.1 1 6 = nI (r + 1) ∧ N2.1 1 (459 + 10 * r) = nI n ∧ ∀ i, i < n → N2.1 1 (459 + 10 * r + 1 + i) = rcd (N.1 5 i)) := by
          refine dn ?_ (fun i hi ih => ?_)
          · intro N5 hc ha h0 hl
            refine gX11_report_116 (d := 199) ⟨fun _ N6 e6 N7 e7 => ?_, fun z => absurd (by rw [hc 0 (by omega), tN]; exact nI_le (Nat.le_refl _) (by omega)) z⟩
            have g6 : N6.1 1 6 = nI r := by rw [e6, wr_cell (by omega), ha 6 (by omega)]; exact hr6
            rw [g6, nI_1] at e7
            have r1 : N7.1 1 = upd (N5.1 1) 6 (nI (r + 1)) := by rw [e7, wr_row, e6, wr_cell (by omega)]
            refine ⟨by rw [r1, upd_eq], fun k k1 k2 => by rw [e7, wr_cell (by omega), e6, wr_cell (by omega)]; exact hc k (by omega), fun j hj => by rw [e7, wr_cell (by omega), e6, wr_ne (by omega), hc 0 (by omega)], by rw [e7, wr_cell (by omega), e6, wr_same], fun j j1 j2 => by rw [r1, upd_ne j1]; exact ha j j2, by rw [r1, upd_eq], by rw [r1, upd_ne (by omega)]; exact h0, fun j hj => by rw [r1, upd_ne (by omega)]; exact hl j hj⟩
          · intro N5 hc ha h0 hl
            have tN5 : N5.1 0 5 = nI n := by rw [hc 0 (by omega)]; exact tN
            obtain ⟨b1, b2⟩ := btA_at tN5 n300 hi
            have nx : ∀ v : Int32, v = rcd (N.1 5 i) → ∀ N6, N6 = ev_wr N5 1 (459 + 10 * r + 1 + i) v → Ev LM 200 mX11_report 116 [some (.ref 0), none, some (.int (nI (459 + 10 * r))), some (.int (nI i + 1))] [] N6 (fun z N2 => z = some (.int (nI (r + 1))) ∧ (∀ k, 2 ≤ k → k ≤ 5 → N2.1 k = N.1 k) ∧ (∀ j, j ≠ 5 → N2.1 0 j = N.1 0 j) ∧ N2.1 0 5 = 0 ∧ (∀ i, i ≠ 6 → i < 459 + 10 * r ∨ 459 + 10 * r + 10 ≤ i → N2.1 1 i = N.1 1 i) ∧ N2.1 1 6 = nI (r + 1) ∧ N2.1 1 (459 + 10 * r) = nI n ∧ ∀ i, i < n → N2.1 1 (459 + 10 * r + 1 + i) = rcd (N.1 5 i)) := by
              intro v ev N6 e6
              rw [nI_1]
              refine ih N6 (fun k hk => by rw [e6, wr_cell hk]; exact hc k hk) (fun j hj => by rw [e6, wr_ne (by omega)]; exact ha j hj) (by rw [e6, wr_ne (by omega)]; exact h0) (fun j hj => ?_)
              rw [e6]
              by_cases e : j = i
              · rw [e, wr_same, ev]
              · rw [wr_ne (by omega)]; exact hl j (by omega)
            refine gX11_report_116 (d := 199) ⟨fun z => ?_, fun _ => ⟨b2, ?_⟩⟩
            · rw [tN5] at z; exact absurd z (nI_ge hi (by omega))
            · rw [b1, hc 5 (by omega), nI_1, nI_add, nI_clamp (by omega)]
              have vv : vp_in (nI (459 + 10 * r + 1 + i)) 3315 := vp_in_nI (by omega) (by omega)
              refine ⟨fun y => ⟨b2, vv, fun N6 e6 => nx _ ?_ N6 e6⟩, fun y => ⟨vv, fun N6 e6 => nx _ ?_ N6 e6⟩⟩
              · unfold rcd; rw [if_neg y]
              · unfold rcd; rw [if_pos y]
        exact lp 0 (by omega) N4 (fun k hk => by rw [e4, wr_cell hk]) (fun j hj => by rw [e4, wr_ne (by omega)]) (by rw [e4, wr_same]) (fun j hj => absurd hj (by omega))
      · rintro M2 N2 ⟨x1, x2, x3, x4, x5, x6, x7⟩ ⟨m1, m2, m3, m4, m5, m6, m7⟩
        let M' := rowM M2 1 (M.1 1)
        let N' := rowM N2 0 (N.1 0)
        have mc : ∀ k, k ≠ 1 → M'.1 k = M2.1 k := fun k hk => rowM_n hk
        have nc : ∀ k, k ≠ 0 → N'.1 k = N2.1 k := fun k hk => rowM_n hk
        have hR : RX (B + 2000) M' N' := by
          refine RX_nt h1 h2 (fun k hk => ?_) (fun k k1 k2 => ?_) (fun i hi => ?_) ?_
          · by_cases e : k = 1
            · rw [e]; exact rowM_s
            · rw [mc k e]; exact x1 k e (by omega) (by omega) (by omega)
          · by_cases e : k = 0
            · rw [e]; exact rowM_s
            · rw [nc k e]; exact m1 k (by omega) k1
          · rw [nc 1 (by omega)]; exact m4 i (by omega) (by omega)
          · have row : (fun i => M'.1 (47 + 5 + i)) = fun i => M2.1 (52 + i) := funext fun i => mc _ (by omega)
            refine nRel_iff.mpr ⟨?_, ?_, ?_, ?_, ?_⟩
            · rw [mc _ (by omega), mc _ (by omega), x1 _ (by omega) (by omega) (by omega) (by omega), x1 _ (by omega) (by omega) (by omega) (by omega)]
              exact nR1_cg (fun i _ _ => by rw [nc 1 (by omega)]; exact m4 i (by omega) (by omega)) q1
            · rw [mc _ (by omega), x2 _ (by omega), x2 _ (by omega)]
              exact nR2_cg (by rw [nc 1 (by omega)]; exact m4 2 (by omega) (by omega)) (by rw [nc 1 (by omega)]; exact m4 3 (by omega) (by omega)) q2
            · rw [mc _ (by omega), mc _ (by omega), x2 _ (by omega), x1 _ (by omega) (by omega) (by omega) (by omega)]
              exact nR3_cg (Nat.le_refl _) (by rw [nc 1 (by omega)]; exact m4 5 (by omega) (by omega)) (fun i _ _ => by rw [nc 1 (by omega)]; exact m4 i (by omega) (by omega)) q3
            · rw [row, mc 47 (by omega), mc (47 + 10) (by omega), nc 1 (by omega)]
              refine ⟨r + 1, by omega, x3, m5, fun i hi => ?_⟩
              by_cases e : i = r
              · subst e
                refine ⟨x5.trans m6.symm, n, n1, n9, m6, fun j hj => ?_⟩
                show rRel (M2.1 (52 + i) j) _
                rw [x6 j hj, m7 j hj]
                exact rcd_r (ga j hj)
              · obtain ⟨s1, k, s2, s3, s4, s5⟩ := hA i (by omega)
                rw [m4 (459 + 10 * i) (by omega) (by omega)]
                refine ⟨(x4 i e).trans s1, k, s2, s3, s4, fun j hj => ?_⟩
                show rRel (M2.1 (52 + i) j) _
                rw [x1 (52 + i) (by omega) (by omega) (by omega) (by omega), m4 (459 + 10 * i + 1 + j) (by omega) (by omega)]
                exact s5 j hj
            · rw [mc _ (by omega), mc _ (by omega), mc _ (by omega), x2 _ (by omega), x1 _ (by omega) (by omega) (by omega) (by omega), x1 _ (by omega) (by omega) (by omega) (by omega)]
              exact nR5_cg (Nat.le_refl _) (by rw [nc 1 (by omega)]; exact m4 7 (by omega) (by omega)) (fun i _ _ => by rw [nc 1 (by omega)]; exact m4 i (by omega) (by omega)) q5
        refine RX_tp hR (fun k _ k1 _ _ => (mc k k1).symm) (fun k k1 _ => (nc k (by omega)).symm) ?_ ⟨0, by omega, x7, m3, fun i hi => absurd hi (by omega)⟩
        have e0 : N'.1 0 = N.1 0 := rowM_s
        rw [e0]
        exact ⟨m2 6 (by omega), m2 7 (by omega)⟩
  · have good : spv (N.1 5) n true = false := by rwa [Bool.not_eq_true] at good
    refine oq_rf (r := 0) (v := some (.int (-1))) (by omega) h ?_ ?_
    · refine Cl_of rfl (Nat.le_of_ble_eq_true rfl) rfl (gX10_report_0 (d := 199) ⟨_, sx 198, fun zr M2 q => ?_⟩)
      rw [q.1, q.2, good]
      exact gX10_report_8 (d := 199) ⟨fun z => absurd rfl z, fun _ => ⟨v03, fun M1 e1 => ⟨rfl, by rw [e1, c0]; exact xq.rf⟩⟩⟩
    · refine ml _ ?_
      rw [good]
      exact gX11_report_13 (d := 199) ⟨fun _ => ⟨fun z => absurd rfl z, fun _ => ⟨v03, fun M1 e1 => ⟨rfl, by rw [e1, c0]; exact pe.rf⟩⟩⟩, fun z => absurd (by rw [tN]; exact nI_le (Nat.le_refl _) (by omega)) z⟩
end
