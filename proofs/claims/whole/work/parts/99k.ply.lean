/-! CALL: played -/
section
variable {d B : Nat} {M N : ev_Mem} {W T S s f : Nat} {lo : Int32}
theorem RX_dc {t : Nat} (h : RX B M N) (hT : N.1 1 2 = nI T) (T4 : T ≤ 4) (ht : t < T) : dcR M N t := by
  obtain ⟨W, S, T2, Wk, Sk, Tk, h1, h2, h3, h4, -⟩ := h
  have e : T2 = T := (nI_eq (by have := h1.2.2.2.2; omega) (by omega)).mp (h1.2.2.2.1.symm.trans hT)
  subst e
  exact (h4 t ht).2
theorem cl_get {t n k q : Nat} (h : RX B M N) (hT : N.1 1 2 = nI T) (T4 : T ≤ 4) (ht : t < T) (hn : N.1 4 (945 * t) = nI n) (hn24 : n ≤ 24) (hk : k < n) (hq : N.1 4 (945 * t + 1 + 14 * k) = nI q) (hq9 : q ≤ 9) : ∃ u st, u ≤ 300 ∧ M.1 (61 + 5 * t) 1 = nI u ∧ st ≤ 300 ∧ M.1 (61 + 5 * t + 2) k = nI q ∧ M.1 (61 + 5 * t + 3) k = nI st ∧ clR (M.1 (61 + 5 * t + 1)) (N.1 4) u st (945 * t + 1 + 14 * k) q := by
  obtain ⟨n2, u, ⟨a1, a2, a3⟩, ⟨a4, a5⟩, a6⟩ := RX_dc h hT T4 ht
  have e : n2 = n := (nI_eq (by omega) (by omega)).mp (a3.symm.trans hn)
  subst e
  obtain ⟨q2, st, b1, b2, b3, b4, b5, b6⟩ := a6 k hk
  have e : q2 = q := (nI_eq (by omega) (by omega)).mp (b5.symm.trans hq)
  subst e
  exact ⟨u, st, a4, a5, b2, b3, b4, b6⟩
theorem m1_0 : ∀ {v : Int32}, (v = -1 ∨ ¬ v < 0) → (v = -1 ↔ v < 0) := fun {v} h => ⟨fun e => by rw [e]; decide, fun e => h.resolve_right (fun z => z e)⟩
/-- one clause, played -/
theorem clause {B0 t n k : Nat} {M0 : ev_Mem} (hB0 : B0 < 2 ^ 28) (h0 : RX B0 M0 N) (hT : N.1 1 2 = nI T) (T4 : T ≤ 4) (ht : t < T) (hn : N.1 4 (945 * t) = nI n) (hn24 : n ≤ 24) (hk : k < n) : ∃ (gb : Bool) (N1 : ev_Mem), (∃ M1, RX (B0 + 80) M1 N1) ∧ (N1.1 1 2 = N.1 1 2 ∧ N1.1 4 = N.1 4) ∧ (∀ d Na, pe N Na → Cl LM (d + 21) mX11_isPlayed [.ref 0, .int (nI (945 * t + 1 + 14 * k))] Na (fun r N2 => r = some (.int (bi gb)) ∧ pe N1 N2)) ∧ ∀ d B M, B < 2 ^ 28 → RX B M N → Cl LX (d + 21) mX10_playClause [.ref 0, .ref (61 + 5 * t), .int (nI k)] M (fun r M2 => r = some (.int (bi gb)) ∧ RX (B + 80) M2 N1) := by
  obtain ⟨n2, u0, ⟨a1, a2, a3⟩, ⟨a4, a5⟩, a6⟩ := RX_dc h0 hT T4 ht
  have e : n2 = n := (nI_eq (by omega) (by omega)).mp (a3.symm.trans hn)
  subst e
  obtain ⟨q, st0, hq9, b2, -, -, hq, c0⟩ := a6 k hk
  have get : ∀ {B M}, RX B M N → ∃ u st, u ≤ 300 ∧ M.1 (61 + 5 * t) 1 = nI u ∧ st ≤ 300 ∧ M.1 (61 + 5 * t + 2) k = nI q ∧ M.1 (61 + 5 * t + 3) k = nI st ∧ clR (M.1 (61 + 5 * t + 1)) (N.1 4) u st (945 * t + 1 + 14 * k) q := fun h => cl_get h hT T4 ht hn hn24 hk hq hq9
  have hx14 : 945 * t + 1 + 14 * k + 14 ≤ 3780 := by omega
  have hkT : ev_isT (61 + 5 * t) := ⟨t, by omega, rfl⟩
  have lT1 := lx_T1 hkT
  have k61 : 42 ≤ 61 + 5 * t + 1 := by omega
  have kt4 : k < 24 := by omega
  generalize ek : 61 + 5 * t = kt at *
  generalize ex : 945 * t + 1 + 14 * k = x at *
  have vx : ∀ c, c ≤ 13 → vp_in (nI x + nI c) 3780 := fun c hc => by rw [nI_add]; exact vp_in_nI (by omega) (by omega)
  have vk : vp_in (nI k) 24 := vp_in_nI kt4 (by omega)
  have nx : ∀ c : Nat, nI x + nI c = nI (x + c) := fun c => nI_add x c
  have cls : ∀ (d : Nat) (B : Nat) (M : ev_Mem) (Q : Option Value → ev_Mem → Prop), RX B M N → (∀ u st (s0 : Int32), u ≤ 300 → M.1 kt 1 = nI u → st ≤ 300 → M.1 (kt + 3) k = nI st → clR (M.1 (kt + 1)) (N.1 4) u st x q → (st < u → s0 = M.1 (kt + 1) st) → M.1 (kt + 2) k = nI q → Ev LX (d + 21) mX10_playClause 6 [some (.ref 0), some (.ref kt), some (.int (nI k)), none] [.int s0] M Q) → Ev LX (d + 21) mX10_playClause 0 [some (.ref 0), some (.ref kt), some (.int (nI k)), none] [] M Q := fun d B M Q h hk2 => by
    obtain ⟨u, st, g1, g2, g3, g4, g5, g6⟩ := get h
    refine gX10_playClause_0 (d := d + 20) hkT ⟨_, kX8_part0 (d := d + 20) hkT kt4 g5 g3 g1 g2, fun zr M2 q2 => ?_⟩
    obtain ⟨⟨v, e1, e2⟩, e3⟩ := q2
    rw [e1, e3]
    exact hk2 u st v g1 g2 g3 g5 g6 e2 g4
  have kd : ∀ {M : ev_Mem}, M.1 (kt + 2) k = nI q → M.1 (kt + 2) (nI k).toNatClampNeg = nI q := fun h => by rw [nI_clamp (by omega)]; exact h
  have qn : ∀ c : Nat, c ≤ 9 → q ≠ c → ¬ nI q = nI c := fun c hc hne z => hne ((nI_eq (by omega) (by omega)).mp z)
  have mq : ∀ {Na : ev_Mem}, pe N Na → Na.1 4 (nI x).toNatClampNeg = nI q := fun hp => by rw [hp.r4, nI_clamp (by omega)]; exact hq
  have n3 : ∀ {M : ev_Mem} {st : Nat}, M.1 (kt + 3) k = nI st → M.1 (kt + 3) (nI k).toNatClampNeg = nI st := fun h => by rw [nI_clamp (by omega)]; exact h
  have t4 : ∀ {Na : ev_Mem}, pe N Na → ∀ c : Nat, c ≤ 13 → Na.1 4 (nI x + nI c).toNatClampNeg = N.1 4 (x + c) := fun hp c hc => by rw [hp.r4, nx, nI_clamp (by omega)]
  have fl : ∀ {v : Int32}, v < 0 → bi (decide (¬ v < 0)) = 0 := fun h => by rw [decide_eq_false (fun y => y h)]; rfl
  have tr : ∀ {v : Int32}, ¬ v < 0 → bi (decide (¬ v < 0)) = 1 := fun h => by rw [decide_eq_true h]; rfl
  by_cases q3 : q = 3
  · subst q3
    obtain ⟨L, l1, l9, -, -, x4, xl, ⟨-, x1⟩, ⟨-, x2⟩, -, x3⟩ := c0.1 rfl
    obtain ⟨v, N1, hv, he, hN, hm, hc⟩ := v_word h0 hx14 l1 l9 x4 (fun i hi => by obtain ⟨l, hl, -, e⟩ := xl i hi; exact ⟨l, by omega, e⟩) x1 x2 x3
    refine ⟨decide (¬ v < 0), N1, he, hN, fun d Na hp => ?_, fun d B M hB h => ?_⟩
    · refine Cl_of rfl (Nat.le_of_ble_eq_true rfl) rfl (gX11_isPlayed_0 (d := d + 20) ⟨vx 1 (by omega), fun v1 e1 => ?_⟩)
      replace e1 : v1 = N.1 4 (x + 1) := by rw [e1]; exact t4 hp 1 (by omega)
      rw [mq hp]
      refine ⟨vp_in_nI (by omega) (by omega), fun _ => ⟨_, hm (d + 18) Na hp, fun zr N2 q => ?_⟩, fun z => absurd z (by decide), fun z => absurd z (by decide), fun z => absurd z (by decide), fun z => absurd z (by decide), fun z => absurd z (by decide), fun z => absurd z (by decide), fun z => absurd (show nI 3 = (3 : Int32) from rfl) z.1⟩
      rw [q.1]
      exact gX11_isPlayed_61 ⟨fun z => ⟨by rw [fl z], q.2⟩, fun z => ⟨by rw [tr z], q.2⟩⟩
    · refine Cl_of rfl (Nat.le_of_ble_eq_true rfl) rfl (cls d B M _ h (fun u st s0 g1 g2 g3 g5 g6 e2 g4 => ?_))
      obtain ⟨L', l1', l9', lu, cst, x4', xl', ⟨k1, -⟩, ⟨k2, -⟩, k3, -⟩ := g6.1 rfl
      have eL : L' = L := (nI_eq (by omega) (by omega)).mp (x4'.symm.trans x4)
      subst eL
      have es : s0 = nI L' := by rw [e2 (by omega), cst]
      subst es
      have k1 : M.1 (kt + 1) (st + (L' + 1)) = N.1 4 (x + 1) := k1
      have k2 : M.1 (kt + 1) (st + (L' + 2)) = N.1 4 (x + 2) := k2
      have k3 : M.1 (kt + 1) (st + (L' + 3)) = N.1 4 (x + 3) := k3
      refine gX10_playClause_6 (d := d + 20) hkT ⟨vk, ?_⟩
      rw [kd g4, n3 g5, nI_1 st]
      refine ⟨fun _ => ⟨vk, ?_⟩, fun z => absurd z (by decide), fun z => absurd z (by decide), fun z => absurd z (by decide), fun z => absurd z (by decide), fun z => absurd z (by decide), fun z => absurd z (by decide), fun z => absurd (show nI 3 = (3 : Int32) from rfl) z.1⟩
      rw [nI_1 L']
      refine ⟨_, kX8_part (d := d + 20) (i := L' + 1) hkT kt4 g5 g1 g2 (by omega), fun zr M2 q2 => ?_⟩
      rw [q2.1, q2.2, k1]
      refine gX10_playClause_78 (d := d + 20) hkT ?_
      rw [show nI L' + 2 = nI (L' + 2) from nI_add L' 2]
      refine ⟨_, kX8_part (d := d + 20) (i := L' + 2) hkT kt4 g5 g1 g2 (by omega), fun zr M2 q2 => ?_⟩
      rw [q2.1, q2.2, k2]
      refine gX10_playClause_86 (d := d + 20) hkT ?_
      rw [show nI L' + 3 = nI (L' + 3) from nI_add L' 3]
      refine ⟨_, kX8_part (d := d + 20) (i := L' + 3) hkT kt4 g5 g1 g2 (by omega), fun zr M2 q2 => ?_⟩
      rw [q2.1, q2.2, k3]
      refine gX10_playClause_94 (d := d + 20) hkT ⟨_, hc (d + 18) B M hB h (kt + 1) st lT1 (by omega) (by omega) (fun i hi => ?_), fun zr M2 q2 => ?_⟩
      · obtain ⟨l, hl, e4, e5⟩ := xl' i hi
        rw [e4, e5, show (97 : Int32) = nI 97 from rfl, pk_sub (by omega), Nat.add_sub_cancel_left]
      · rw [q2.1]
        exact gX10_playClause_97 hkT ⟨fun z => ⟨by rw [fl ((m1_0 hv).mp z)], q2.2⟩, fun z => ⟨by rw [tr (fun y => z ((m1_0 hv).mpr y))], q2.2⟩⟩
  · by_cases q4 : q = 4
    · subst q4
      obtain ⟨m, l1, l9, -, -, x1, xl⟩ := c0.2.1 rfl
      obtain ⟨v, N1, hv, he, hN, hm, hc⟩ := v_said h0 hx14 l1 l9 x1 (fun i hi => (xl i hi).2)
      refine ⟨decide (¬ v < 0), N1, he, hN, fun d Na hp => ?_, fun d B M hB h => ?_⟩
      · refine Cl_of rfl (Nat.le_of_ble_eq_true rfl) rfl (gX11_isPlayed_0 (d := d + 20) ⟨vx 1 (by omega), fun v1 e1 => ?_⟩)
        replace e1 : v1 = N.1 4 (x + 1) := by rw [e1]; exact t4 hp 1 (by omega)
        rw [mq hp]
        refine ⟨vp_in_nI (by omega) (by omega), fun z => absurd z (by decide), fun _ => ⟨_, hm (d + 18) Na hp, fun zr N2 q => ?_⟩, fun z => absurd z (by decide), fun z => absurd z (by decide), fun z => absurd z (by decide), fun z => absurd z (by decide), fun z => absurd z (by decide), fun z => absurd (show nI 4 = (4 : Int32) from rfl) z.2.1⟩
        rw [q.1]
        refine gX11_isPlayed_75 ⟨?_, ?_, q.2⟩
        · split <;> rfl
        · by_cases z : v < 0
          · rw [if_pos z, fl z]
          · rw [if_neg z, tr z]
      · refine Cl_of rfl (Nat.le_of_ble_eq_true rfl) rfl (cls d B M _ h (fun u st s0 g1 g2 g3 g5 g6 e2 g4 => ?_))
        obtain ⟨m', l1', l9', lu, cst, x1', xl'⟩ := g6.2.1 rfl
        have eL : m' = m := (nI_eq (by omega) (by omega)).mp (x1'.symm.trans x1)
        subst eL
        have es : s0 = nI m' := by rw [e2 (by omega), cst]
        subst es
        refine gX10_playClause_6 (d := d + 20) hkT ⟨vk, ?_⟩
        rw [kd g4, n3 g5, nI_1 st]
        refine ⟨fun z => absurd z (by decide), fun _ => ⟨vk, _, hc (d + 18) B M hB h (kt + 1) st lT1 (by omega) (by omega) (fun i hi => (xl' i hi).1), fun zr M2 q2 => ?_⟩, fun z => absurd z (by decide), fun z => absurd z (by decide), fun z => absurd z (by decide), fun z => absurd z (by decide), fun z => absurd z (by decide), fun z => absurd (show nI 4 = (4 : Int32) from rfl) z.2.1⟩
        rw [q2.1]
        exact gX10_playClause_124 hkT ⟨fun z => ⟨by rw [fl ((m1_0 hv).mp z)], q2.2⟩, fun z => ⟨by rw [tr (fun y => z ((m1_0 hv).mpr y))], q2.2⟩⟩
    · by_cases q5 : q = 5
      · subst q5
        obtain ⟨gb, N1, he, hN, hm, hc⟩ := v_made h0 (N.1 4 (x + 2)) (N.1 4 (x + 4)) (N.1 4 (x + 5))
        refine ⟨gb, N1, he, hN, fun d Na hp => ?_, fun d B M hB h => ?_⟩
        · refine Cl_of rfl (Nat.le_of_ble_eq_true rfl) rfl (gX11_isPlayed_0 (d := d + 20) ⟨vx 1 (by omega), fun v1 e1 => ?_⟩)
          replace e1 : v1 = N.1 4 (x + 1) := by rw [e1]; exact t4 hp 1 (by omega)
          rw [mq hp]
          refine ⟨vp_in_nI (by omega) (by omega), fun z => absurd z (by decide), fun z => absurd z (by decide), fun _ => ⟨vx 2 (by omega), vx 4 (by omega), vx 5 (by omega), ?_⟩, fun z => absurd z (by decide), fun z => absurd z (by decide), fun z => absurd z (by decide), fun z => absurd z (by decide), fun z => absurd (show nI 5 = (5 : Int32) from rfl) z.2.2.1⟩
          rw [show Na.1 4 (nI x + 2).toNatClampNeg = N.1 4 (x + 2) from t4 hp 2 (by omega), show Na.1 4 (nI x + 4).toNatClampNeg = N.1 4 (x + 4) from t4 hp 4 (by omega), show Na.1 4 (nI x + 5).toNatClampNeg = N.1 4 (x + 5) from t4 hp 5 (by omega)]
          refine ⟨_, hm d Na hp, fun zr N2 q => ?_⟩
          rw [q.1]
          exact gX11_isPlayed_104 ⟨bi_nar gb, rfl, q.2⟩
        · refine Cl_of rfl (Nat.le_of_ble_eq_true rfl) rfl (cls d B M _ h (fun u st s0 g1 g2 g3 g5 g6 e2 g4 => ?_))
          obtain ⟨lu, ⟨k0, -⟩, ⟨k1, -⟩, k2, -⟩ := g6.2.2.1 rfl
          have es : s0 = N.1 4 (x + 2) := by rw [e2 (by omega), k0]
          subst es
          refine gX10_playClause_6 (d := d + 20) hkT ⟨vk, ?_⟩
          rw [kd g4, n3 g5, nI_1 st]
          refine ⟨fun z => absurd z (by decide), fun z => absurd z (by decide), fun _ => ⟨_, kX8_part (d := d + 20) (i := 1) hkT kt4 g5 g1 g2 (by omega), fun zr M2 q2 => ?_⟩, fun z => absurd z (by decide), fun z => absurd z (by decide), fun z => absurd z (by decide), fun z => absurd z (by decide), fun z => absurd (show nI 5 = (5 : Int32) from rfl) z.2.2.1⟩
          rw [q2.1, q2.2, k1]
          refine gX10_playClause_142 (d := d + 20) hkT ⟨_, kX8_part (d := d + 20) (i := 2) hkT kt4 g5 g1 g2 (by omega), fun zr M2 q2 => ?_⟩
          rw [q2.1, q2.2, k2]
          refine gX10_playClause_148 (d := d + 20) hkT ⟨_, hc d B M hB h, fun zr M2 q2 => ?_⟩
          rw [q2.1]
          exact gX10_playClause_151 hkT ⟨bi_nar gb, rfl, q2.2⟩
      · by_cases q6 : q = 6
        · subst q6
          obtain ⟨gb, N1, he, hN, hm, hc⟩ := v_key h0 (N.1 4 (x + 2))
          refine ⟨gb, N1, he, hN, fun d Na hp => ?_, fun d B M hB h => ?_⟩
          · refine Cl_of rfl (Nat.le_of_ble_eq_true rfl) rfl (gX11_isPlayed_0 (d := d + 20) ⟨vx 1 (by omega), fun v1 e1 => ?_⟩)
            replace e1 : v1 = N.1 4 (x + 1) := by rw [e1]; exact t4 hp 1 (by omega)
            rw [mq hp]
            refine ⟨vp_in_nI (by omega) (by omega), fun z => absurd z (by decide), fun z => absurd z (by decide), fun z => absurd z (by decide), fun _ => ⟨vx 2 (by omega), ?_⟩, fun z => absurd z (by decide), fun z => absurd z (by decide), fun z => absurd z (by decide), fun z => absurd (show nI 6 = (6 : Int32) from rfl) z.2.2.2.1⟩
            rw [show Na.1 4 (nI x + 2).toNatClampNeg = N.1 4 (x + 2) from t4 hp 2 (by omega)]
            refine ⟨_, hm d Na hp, fun zr N2 q => ?_⟩
            rw [q.1]
            exact gX11_isPlayed_117 ⟨bi_nar gb, rfl, q.2⟩
          · refine Cl_of rfl (Nat.le_of_ble_eq_true rfl) rfl (cls d B M _ h (fun u st s0 g1 g2 g3 g5 g6 e2 g4 => ?_))
            obtain ⟨lu, k0, -⟩ := g6.2.2.2.1 rfl
            have es : s0 = N.1 4 (x + 2) := by rw [e2 (by omega), k0]
            subst es
            refine gX10_playClause_6 (d := d + 20) hkT ⟨vk, ?_⟩
            rw [kd g4, n3 g5, nI_1 st]
            refine ⟨fun z => absurd z (by decide), fun z => absurd z (by decide), fun z => absurd z (by decide), fun _ => ⟨_, hc d B M hB h, fun zr M2 q2 => ?_⟩, fun z => absurd z (by decide), fun z => absurd z (by decide), fun z => absurd z (by decide), fun z => absurd (show nI 6 = (6 : Int32) from rfl) z.2.2.2.1⟩
            rw [q2.1]
            exact gX10_playClause_157 hkT ⟨bi_nar gb, rfl, q2.2⟩
        · by_cases q7 : q = 7
          · subst q7
            obtain ⟨v, N1, hv, he, hN, hm, hc⟩ := v_turn h0 (N.1 4 (x + 1))
            refine ⟨decide (¬ v < 0), N1, he, hN, fun d Na hp => ?_, fun d B M hB h => ?_⟩
            · refine Cl_of rfl (Nat.le_of_ble_eq_true rfl) rfl (gX11_isPlayed_0 (d := d + 20) ⟨vx 1 (by omega), fun v1 e1 => ?_⟩)
              replace e1 : v1 = N.1 4 (x + 1) := by rw [e1]; exact t4 hp 1 (by omega)
              rw [mq hp]
              refine ⟨vp_in_nI (by omega) (by omega), fun z => absurd z (by decide), fun z => absurd z (by decide), fun z => absurd z (by decide), fun z => absurd z (by decide), fun _ => by rw [e1]; exact ⟨_, hm d Na hp, fun zr N2 q => by rw [q.1]; exact gX11_isPlayed_123 ⟨fun z => ⟨by rw [fl z], q.2⟩, fun z => ⟨by rw [tr z], q.2⟩⟩⟩, fun z => absurd z (by decide), fun z => absurd z (by decide), fun z => absurd (show nI 7 = (7 : Int32) from rfl) z.2.2.2.2.1⟩
            · refine Cl_of rfl (Nat.le_of_ble_eq_true rfl) rfl (cls d B M _ h (fun u st s0 g1 g2 g3 g5 g6 e2 g4 => ?_))
              obtain ⟨lu, k0, -⟩ := g6.2.2.2.2 (by omega)
              have es : s0 = N.1 4 (x + 1) := by rw [e2 (by omega), k0]
              subst es
              refine gX10_playClause_6 (d := d + 20) hkT ⟨vk, ?_⟩
              rw [kd g4, n3 g5, nI_1 st]
              refine ⟨fun z => absurd z (by decide), fun z => absurd z (by decide), fun z => absurd z (by decide), fun z => absurd z (by decide), fun _ => ⟨_, hc d B M hB h, fun zr M2 q2 => by rw [q2.1]; exact gX10_playClause_163 hkT ⟨fun z => ⟨by rw [fl ((m1_0 hv).mp z)], q2.2⟩, fun z => ⟨by rw [tr (fun y => z ((m1_0 hv).mpr y))], q2.2⟩⟩⟩, fun z => absurd z (by decide), fun z => absurd z (by decide), fun z => absurd (show nI 7 = (7 : Int32) from rfl) z.2.2.2.2.1⟩
          · by_cases q8 : q = 8
            · subst q8
              obtain ⟨v, N1, hv, he, hN, hm, hc⟩ := v_write hB0 h0 (N.1 4 (x + 1))
              refine ⟨decide (¬ v < 0), N1, he, hN, fun d Na hp => ?_, fun d B M hB h => ?_⟩
              · refine Cl_of rfl (Nat.le_of_ble_eq_true rfl) rfl (gX11_isPlayed_0 (d := d + 20) ⟨vx 1 (by omega), fun v1 e1 => ?_⟩)
                replace e1 : v1 = N.1 4 (x + 1) := by rw [e1]; exact t4 hp 1 (by omega)
                rw [mq hp]
                refine ⟨vp_in_nI (by omega) (by omega), fun z => absurd z (by decide), fun z => absurd z (by decide), fun z => absurd z (by decide), fun z => absurd z (by decide), fun z => absurd z (by decide), fun _ => by rw [e1]; exact ⟨_, hm d Na hp, fun zr N2 q => by rw [q.1]; exact gX11_isPlayed_137 ⟨fun z => ⟨by rw [fl z], q.2⟩, fun z => ⟨by rw [tr z], q.2⟩⟩⟩, fun z => absurd z (by decide), fun z => absurd (show nI 8 = (8 : Int32) from rfl) z.2.2.2.2.2.1⟩
              · refine Cl_of rfl (Nat.le_of_ble_eq_true rfl) rfl (cls d B M _ h (fun u st s0 g1 g2 g3 g5 g6 e2 g4 => ?_))
                obtain ⟨lu, k0, -⟩ := g6.2.2.2.2 (by omega)
                have es : s0 = N.1 4 (x + 1) := by rw [e2 (by omega), k0]
                subst es
                refine gX10_playClause_6 (d := d + 20) hkT ⟨vk, ?_⟩
                rw [kd g4, n3 g5, nI_1 st]
                refine ⟨fun z => absurd z (by decide), fun z => absurd z (by decide), fun z => absurd z (by decide), fun z => absurd z (by decide), fun z => absurd z (by decide), fun _ => ⟨_, hc d B M hB h, fun zr M2 q2 => by rw [q2.1]; exact gX10_playClause_178 hkT ⟨fun z => ⟨by rw [fl ((m1_0 hv).mp z)], q2.2⟩, fun z => ⟨by rw [tr (fun y => z ((m1_0 hv).mpr y))], q2.2⟩⟩⟩, fun z => absurd z (by decide), fun z => absurd (show nI 8 = (8 : Int32) from rfl) z.2.2.2.2.2.1⟩
            · by_cases q9 : q = 9
              · subst q9
                obtain ⟨-, -, -, -, w9⟩ := (c0.2.2.2.2 (by omega))
                obtain ⟨⟨w, hw40, ew⟩, w0⟩ := w9 rfl
                obtain ⟨gb, N1, he, hN, hm, hc⟩ := v_days hB0 h0 hw40
                refine ⟨gb, N1, he, hN, fun d Na hp => ?_, fun d B M hB h => ?_⟩
                · refine Cl_of rfl (Nat.le_of_ble_eq_true rfl) rfl (gX11_isPlayed_0 (d := d + 20) ⟨vx 1 (by omega), fun v1 e1 => ?_⟩)
                  replace e1 : v1 = N.1 4 (x + 1) := by rw [e1]; exact t4 hp 1 (by omega)
                  rw [mq hp]
                  refine ⟨vp_in_nI (by omega) (by omega), fun z => absurd z (by decide), fun z => absurd z (by decide), fun z => absurd z (by decide), fun z => absurd z (by decide), fun z => absurd z (by decide), fun z => absurd z (by decide), fun _ => ?_, fun z => absurd (show nI 9 = (9 : Int32) from rfl) z.2.2.2.2.2.2⟩
                  rw [e1, ew]
                  refine ⟨_, hm d Na hp, fun zr N2 q => ?_⟩
                  rw [q.1]
                  refine gX11_isPlayed_151 ?_
                  cases gb with
                  | true => exact ⟨fun z => absurd z (by decide), fun _ => ⟨rfl, q.2⟩⟩
                  | false => exact ⟨fun _ => ⟨rfl, q.2⟩, fun z => absurd (by decide) z⟩
                · refine Cl_of rfl (Nat.le_of_ble_eq_true rfl) rfl (cls d B M _ h (fun u st s0 g1 g2 g3 g5 g6 e2 g4 => ?_))
                  obtain ⟨lu, k0, -⟩ := g6.2.2.2.2 (by omega)
                  have es : s0 = nI w := by rw [e2 (by omega), k0, ew]
                  subst es
                  refine gX10_playClause_6 (d := d + 20) hkT ⟨vk, ?_⟩
                  rw [kd g4, n3 g5, nI_1 st]
                  refine ⟨fun z => absurd z (by decide), fun z => absurd z (by decide), fun z => absurd z (by decide), fun z => absurd z (by decide), fun z => absurd z (by decide), fun z => absurd z (by decide), fun _ => ⟨_, hc d B M hB h, fun zr M2 q2 => by rw [q2.1]; exact gX10_playClause_193 hkT ⟨bi_nar gb, rfl, q2.2⟩⟩, fun z => absurd (show nI 9 = (9 : Int32) from rfl) z.2.2.2.2.2.2⟩
              · refine ⟨true, N, ⟨M0, RX_up (by omega) h0⟩, ⟨rfl, rfl⟩, fun d Na hp => ?_, fun d B M hB h => ?_⟩
                · refine Cl_of rfl (Nat.le_of_ble_eq_true rfl) rfl (gX11_isPlayed_0 (d := d + 20) ⟨vx 1 (by omega), fun v1 e1 => ?_⟩)
                  rw [mq hp]
                  exact ⟨vp_in_nI (by omega) (by omega), fun z => absurd z (qn 3 (by omega) (by omega)), fun z => absurd z (qn 4 (by omega) (by omega)), fun z => absurd z (qn 5 (by omega) (by omega)), fun z => absurd z (qn 6 (by omega) (by omega)), fun z => absurd z (qn 7 (by omega) (by omega)), fun z => absurd z (qn 8 (by omega) (by omega)), fun z => absurd z (qn 9 (by omega) (by omega)), fun _ => ⟨rfl, hp⟩⟩
                · refine Cl_of rfl (Nat.le_of_ble_eq_true rfl) rfl (cls d B M _ h (fun u st s0 g1 g2 g3 g5 g6 e2 g4 => ?_))
                  refine gX10_playClause_6 (d := d + 20) hkT ⟨vk, ?_⟩
                  rw [kd g4]
                  exact ⟨fun z => absurd z (qn 3 (by omega) (by omega)), fun z => absurd z (qn 4 (by omega) (by omega)), fun z => absurd z (qn 5 (by omega) (by omega)), fun z => absurd z (qn 6 (by omega) (by omega)), fun z => absurd z (qn 7 (by omega) (by omega)), fun z => absurd z (qn 8 (by omega) (by omega)), fun z => absurd z (qn 9 (by omega) (by omega)), fun _ => ⟨rfl, RX_up (by omega) h⟩⟩
end
