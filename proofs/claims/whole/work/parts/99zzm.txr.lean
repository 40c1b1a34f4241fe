/-! WHAT BOTH READ IS THE SAME TEXT -/
section
variable {d : Nat} {M N : ev_Mem}
theorem mfl_ce {k i a : Nat} {v : Int32} (h : a ≠ k) : (mfl M k i v).1 a = M.1 a := funext fun b => by unfold mfl; exact if_neg (fun z => h z.1)
theorem mfl_at {k i j : Nat} {v : Int32} (h : j < i) : (mfl M k i v).1 k j = v := by unfold mfl; exact if_pos ⟨rfl, h⟩
def xrR (M : ev_Mem) (n kt : Nat) (O : (Nat × Nat) ⊕ List CL) (r : Option Value) (M2 : ev_Mem) : Prop := (∃ f s2, O = Sum.inl (f, s2) ∧ 1 ≤ f ∧ f ≤ 8 ∧ r = some (.int 0) ∧ (M2.1 81 2 = 1 ∧ M2.1 81 3 = nI f ∧ M2.1 81 4 = nI s2) ∧ ∀ i, i ≠ 81 → i < kt ∨ kt + 5 ≤ i → M2.1 i = M.1 i) ∨ (∃ L s, O = Sum.inr L ∧ r = some (.int 1) ∧ tX M2 n kt L s ∧ (M2.1 81 2 = 1 ∧ M2.1 81 3 = 0 ∧ M2.1 81 4 = -1) ∧ ∀ i, i ≠ 81 → i < kt ∨ kt + 5 ≤ i → M2.1 i = M.1 i)
theorem kX4_read {n kt : Nat} (hT : ev_isT kt) (hp : tpK M n) : Cl LX (d + 81) mX4_read [.ref 81, .ref kt] M (xrR M n kt (rdT (byM M) n 25 [] (skp (byM M) n 0))) := by
  have kb := isT_b hT
  refine Cl_of rfl (Nat.le_of_ble_eq_true rfl) rfl (gX4_read_0 (d := d + 80) hT ⟨⟨by omega, by omega⟩, fun M1 e1 => ?_⟩)
  have k1 : M1.1 81 1 = nI kt := by rw [e1, wr_same]
  rw [k1, nI_clamp (by omega)]
  refine ⟨⟨nI_ne0 (by omega) (by omega), hT⟩, _, kX8_empty (d := d + 79) hT, fun zr M2 hz => ?_⟩
  obtain ⟨rfl, e2⟩ := hz
  refine gX4_read_12 (d := d + 80) hT fun M3 e3 M4 e4 M5 e5 M6 e6 => ?_
  have c1 : ∀ i, i ≠ 81 → i ≠ kt → i ≠ kt + 4 → M6.1 i = M.1 i := fun i a b c => by rw [e6, wr_cell a, e5, wr_cell a, e4, wr_cell a, e3, wr_cell a, e2, mfl_ce c, wr_cell b, wr_cell b, e1, wr_cell a]
  have ck : ∀ j, M6.1 kt j = (ev_wr (ev_wr M1 kt 1 0) kt 4 0).1 kt j := fun j => by rw [e6, wr_cell (by omega), e5, wr_cell (by omega), e4, wr_cell (by omega), e3, wr_cell (by omega), e2, mfl_ce (by omega)]
  have c4 : ∀ j, j < 3 → M6.1 (kt + 4) j = -1 := fun j a => by rw [e6, wr_cell (by omega), e5, wr_cell (by omega), e4, wr_cell (by omega), e3, wr_cell (by omega), e2, mfl_at a]
  have b6 : byM M6 = byM M := funext fun i => by unfold byM; rw [c1 2 (by omega) (by omega) (by omega)]
  have t6 : tpK M6 n := ⟨hp.1, by rw [c1 1 (by omega) (by omega) (by omega)]; exact hp.2.1, by rw [c1 2 (by omega) (by omega) (by omega)]; exact hp.2.2⟩
  refine ⟨_, kX4_advance (d := d + 79) (p := 0) t6 (by rw [e6, wr_same]; rfl) (by omega), fun zr M7 hz => ?_⟩
  obtain ⟨rfl, av, hk⟩ := hz
  have b7 : byM M7 = byM M6 := avO_by av
  have sk := skp_le (b := byM M6) (n := n) (p := 0) (by omega)
  have g2 : M7.1 81 2 = 1 := by rw [av.2 2 (by omega), e6, wr_ne (by omega), e5, wr_ne (by omega), e4, wr_ne (by omega), e3, wr_same]
  have g3 : M7.1 81 3 = 0 := by rw [av.2 3 (by omega), e6, wr_ne (by omega), e5, wr_ne (by omega), e4, wr_same]
  have g4 : M7.1 81 4 = -1 := by rw [av.2 4 (by omega), e6, wr_ne (by omega), e5, wr_same]
  have fr : ∀ i, i ≠ 81 → i < kt ∨ kt + 5 ≤ i → M7.1 i = M.1 i := fun i a b => by rw [av.1 i a, c1 i a (by omega) (by omega)]
  have h7 : tX M7 n kt [] (skp (byM M6) n 0) := by
    refine ⟨0, ⟨avO_tp av t6, by rw [b7]; exact hk, sk.2, ?_, hT, ?_⟩, by omega, ⟨?_, by simp⟩, fun i hi => absurd hi (by simp), fun k hk => ⟨fun _ => ?_, fun i hi => absurd hi (by simp)⟩⟩
    · rw [av.2 1 (by omega), e6, wr_ne (by omega), e5, wr_ne (by omega), e4, wr_ne (by omega), e3, wr_ne (by omega), e2, mfl_ce (by omega), wr_cell (by omega), wr_cell (by omega)]; exact k1
    · rw [av.1 kt (by omega), ck 1, wr_ne (by omega), wr_same]; rfl
    · rw [av.1 kt (by omega), ck 4, wr_same]; rfl
    · rw [av.1 (kt + 4) (by omega)]; exact c4 k hk
  have := xrd_lp (d := d) (M := M7) hT 25 [] (skp (byM M6) n 0) M7 rfl h7 cfx.rf ⟨rfl, rfl⟩
  rw [b7, b6] at this
  refine gX4_read_36 hT ?_
  refine Ev.mono this (fun r M8 hz => ?_)
  rcases hz with ⟨f, s2, e, q1, q2, rfl, q3, q4, q5⟩ | ⟨L, s, e, rfl, q1, q2, q3, q4⟩
  · exact Or.inl ⟨f, s2, e, q1, q2, rfl, ⟨by rw [q5.2 2 (by omega)]; exact g2, q3, q4⟩, fun i a b => by rw [q5.1 i a b, fr i a b]⟩
  · exact Or.inr ⟨L, s, e, rfl, q1, ⟨by rw [q2.2 2 (by omega)]; exact g2, q3.trans g3, q4.trans g4⟩, fun i a b => by rw [q2.1 i a b, fr i a b]⟩
theorem gD_map {l : List Nat} {f : Nat → Int32} {i : Nat} (h : i < l.length) : (l.map f).getD i 0 = f (l.getD i 0) := by
  rw [List.getD_eq_getElem?_getD, List.getElem?_map, List.getD_eq_getElem?_getD, List.getElem?_eq_getElem h]
  rfl
theorem gD_al {a b : List Int32} {i : Nat} (h : i < a.length) : (a ++ b).getD i 0 = a.getD i 0 := by
  rw [List.getD_eq_getElem?_getD, List.getElem?_append_left h, List.getD_eq_getElem?_getD]
theorem gD_ar {a b : List Int32} {j : Nat} : (a ++ b).getD (a.length + j) 0 = b.getD j 0 := by
  rw [List.getD_eq_getElem?_getD, List.getElem?_append_right (by omega), Nat.add_sub_cancel_left, List.getD_eq_getElem?_getD]
theorem ddC_3 {ls : List Nat} {kd se st : Nat} : ddC 3 (ls ++ [kd, se, st]) = (nI ls.length :: ls.map (fun x => nI (97 + x))) ++ [nI kd, nI se, nI st] := by
  show ltC ((ls ++ [kd, se, st]).take ((ls ++ [kd, se, st]).length - 3)) ++ ((ls ++ [kd, se, st]).drop ((ls ++ [kd, se, st]).length - 3)).map nI = _
  rw [show (ls ++ [kd, se, st]).length - 3 = ls.length by simp, List.take_left, List.drop_left]
  rfl
theorem clR_mk {c tx : Nat → Int32} {st u x q w t0 : Nat} {vs : List Nat} {K : List (Nat × Nat)} (hx : ctX c st u q vs K) (hm : ctM tx t0 x q vs K w) : clR c tx u st x q := by
  refine ⟨fun e => ?_, fun e => ?_, fun e => ?_, fun e => ?_, fun e => ?_⟩
  · subst e
    obtain ⟨a1, a2⟩ := hx.2 (by omega)
    obtain ⟨b1, b2⟩ := hm.2 (by omega)
    obtain ⟨ls, kd, se, sf, rfl, c1, c2, ⟨c3, -⟩, ⟨c4, -⟩, c5, -⟩ := b1.1 rfl
    obtain ⟨l2, k2, s2, f2, e2, g1, g2, g3, g4, g5, g6⟩ := b2.2.1 rfl
    obtain ⟨rfl, e3⟩ := List.append_inj' e2 rfl
    cases e3
    rw [ddC_3] at a1 a2
    have hl : (nI ls.length :: ls.map (fun x => nI (97 + x))).length = ls.length + 1 := by simp
    have a1' : st + (ls.length + 4) ≤ u := by simpa using a1
    have at3 : ∀ j, j < 3 → c (st + (ls.length + 1 + j)) = [nI kd, nI se, nI sf].getD j 0 := fun j hj => by
      rw [a2 (ls.length + 1 + j) (by rw [List.length_append, hl]; simp only [List.length_cons, List.length_nil]; omega), ← hl, gD_ar]
    refine ⟨ls.length, g1, g2, by omega, ?_, c1, fun i hi => ⟨ls.getD i 0, g3 i hi, ?_, c2 i hi⟩, ⟨?_, kd, g4, c3⟩, ⟨?_, se, g5, c4⟩, ?_, sf, g6, c5⟩
    · have := a2 0 (by rw [List.length_append, hl]; omega)
      exact this
    · rw [show st + 1 + i = st + (i + 1) by omega, a2 (i + 1) (by rw [List.length_append, hl]; omega), gD_al (by rw [hl]; omega)]
      exact gD_map hi
    · rw [show st + ls.length + 1 = st + (ls.length + 1 + 0) by omega, at3 0 (by omega), c3]; rfl
    · rw [show st + ls.length + 2 = st + (ls.length + 1 + 1) by omega, at3 1 (by omega), c4]; rfl
    · rw [show st + ls.length + 3 = st + (ls.length + 1 + 2) by omega, at3 2 (by omega), c5]; rfl
  · subst e
    obtain ⟨a1, a2⟩ := hx.2 (by omega)
    obtain ⟨b1, b2⟩ := hm.2 (by omega)
    obtain ⟨c1, c2⟩ := b1.2.1 rfl
    obtain ⟨g1, g2, g3⟩ := b2.2.2.1 rfl
    have hl : (ddC 4 vs).length = vs.length + 1 := by
      show (nI vs.length :: vs.map nI).length = _
      simp
    refine ⟨vs.length, g1, g2, by omega, ?_, c1, fun i hi => ⟨?_, vs.getD i 0, g3 i hi, c2 i hi⟩⟩
    · have := a2 0 (by omega)
      exact this
    · rw [show st + 1 + i = st + (i + 1) by omega, a2 (i + 1) (by omega), c2 i hi]
      exact gD_map hi
  · subst e
    obtain ⟨a1, a2⟩ := hx.2 (by omega)
    obtain ⟨b1, b2⟩ := hm.2 (by omega)
    obtain ⟨a, p, l, rfl, c1, c2, c3, -⟩ := b1.2.2.1 rfl
    obtain ⟨a', p', l', e2, g1, g2, g3⟩ := b2.2.2.2.1 rfl
    cases e2
    have a1' : st + 3 ≤ u := a1
    have z0 := a2 0 (show 0 < 3 by omega)
    have z1 := a2 1 (show 1 < 3 by omega)
    have z2 := a2 2 (show 2 < 3 by omega)
    refine ⟨a1', ⟨?_, a, by omega, c1⟩, ⟨?_, p, by omega, c2⟩, ?_, l, g3, c3⟩
    · rw [c1]; exact z0
    · rw [c2]; exact z1
    · rw [c3]; exact z2
  · subst e
    obtain ⟨a1, a2⟩ := hx.2 (by omega)
    obtain ⟨b1, b2⟩ := hm.2 (by omega)
    obtain ⟨a, rfl, c1⟩ := b1.2.2.2.1 rfl
    obtain ⟨a', e2, g1⟩ := b2.2.2.2.2.1 rfl
    cases e2
    have z0 := a2 0 (show 0 < 1 by omega)
    exact ⟨a1, by rw [c1]; exact z0, a, by omega, c1⟩
  · obtain ⟨a1, a2⟩ := hx.2 (by omega)
    obtain ⟨b1, b2⟩ := hm.2 (by omega)
    obtain ⟨a, rfl, c1⟩ := b1.2.2.2.2 e
    obtain ⟨a', e2, g7, g8, g9⟩ := b2.2.2.2.2.2 e
    cases e2
    have hd : ddC q [a] = [nI a] := by
      unfold ddC
      rw [if_neg (by omega), if_neg (by omega)]
      rfl
    rw [hd] at a1 a2
    have z0 := a2 0 (show 0 < 1 by omega)
    refine ⟨a1, by rw [c1]; exact z0, fun z => ⟨a, g7 z, c1⟩, fun z => ⟨a, g8 z, c1⟩, fun z => ⟨⟨a, (g9 z).2, c1⟩, ?_⟩⟩
    rw [c1]
    have := g9 z
    exact nI_ne0 (by omega) (by omega)
theorem fcl_n {tx : Nat → Int32} {t : Nat} {k : Int32} : ∀ (n c : Nat), (∀ i, c ≤ i → i < c + n → tx (945 * t + 1 + 14 * i) ≠ k) → fcl tx t k c n = none
  | 0, _, _ => rfl
  | n + 1, c, h => by
    rw [fcl, if_neg (h c (by omega) (by omega))]
    exact fcl_n n (c + 1) (fun i a b => h i (by omega) (by omega))
theorem fcl_s {tx : Nat → Int32} {t : Nat} {k : Int32} : ∀ (n c : Nat), (∃ i, c ≤ i ∧ i < c + n ∧ tx (945 * t + 1 + 14 * i) = k) → ∃ c2, fcl tx t k c n = some c2 ∧ c ≤ c2 ∧ c2 < c + n ∧ tx (945 * t + 1 + 14 * c2) = k
  | 0, _, h => by
    obtain ⟨i, a, b, -⟩ := h
    omega
  | n + 1, c, h => by
    rw [fcl]
    by_cases z : tx (945 * t + 1 + 14 * c) = k
    · rw [if_pos z]
      exact ⟨c, rfl, by omega, by omega, z⟩
    · rw [if_neg z]
      obtain ⟨i, a, b, e⟩ := h
      have ne : i ≠ c := fun y => z (y ▸ e)
      obtain ⟨c2, g1, g2, g3, g4⟩ := fcl_s n (c + 1) ⟨i, by omega, by omega, e⟩
      exact ⟨c2, g1, by omega, by omega, g4⟩
theorem txt_mk {n n2 T s s2 : Nat} {L : List CL} (hx : tX M n (61 + 5 * T) L s) (hm : tM N n2 (945 * T) L s2) : txtR M N T := by
  obtain ⟨u, ⟨hp, hk, hs, h1, hT, hu⟩, hus, ⟨h4, hL24⟩, hl, hw⟩ := hx
  obtain ⟨W, hmd, -, ⟨-, hW⟩, -, ⟨hL, -⟩, hlm⟩ := hm
  have n3 := hp.1
  have n4 := hmd.1.1
  have s4 := hmd.2.2
  refine ⟨fun k hk3 => ⟨L.length, hL24, hL, ?_⟩, L.length, u, ⟨hL24, h4, hL⟩, ⟨by omega, hu⟩, fun k hk => ?_⟩
  · cases hh : hsK L k with
    | false =>
      refine Or.inl ⟨(hw k hk3).1 hh, fcl_n _ _ (fun i a b => ?_)⟩
      obtain ⟨w, q9, -, e, -⟩ := hlm i (by omega)
      rw [e]
      exact fun z => hsK_f hh (by omega) ((nI_eq (by omega) (by omega)).mp z)
    | true =>
      obtain ⟨i, hi, ei⟩ := hsK_t hh
      obtain ⟨c, fc, -, hc, ec⟩ := fcl_s (tx := N.1 4) (t := T) (k := nI k) L.length 0 ⟨i, by omega, by omega, by
        obtain ⟨w, -, -, e, -⟩ := hlm i hi
        rw [e, ei]⟩
      rw [Nat.zero_add] at hc
      obtain ⟨w, q9, wW, e, cm⟩ := hlm c hc
      have ek : (gl L c).1 = k := (nI_eq (by omega) (by omega)).mp (e.symm.trans ec)
      obtain ⟨st, st3, -, e3, cx⟩ := hl c hc
      rw [ek] at cx cm
      obtain ⟨v, h, h64, hS, vu, cv⟩ := cx.1 hk3
      obtain ⟨m1, m2, m3⟩ := cm.1 hk3
      refine Or.inr ⟨st, v, u, c, w, w + (gl L c).2.2.length, ⟨st3, by rw [(hw k hk3).2 c hc ek]; exact e3⟩, ⟨by omega, hu⟩, ⟨vu, by rw [cv]; rfl⟩, fc, m2, m3, by omega, by omega, fun f g us ha ho => ?_⟩
      obtain ⟨x, m, hm1, hb, hv, hg⟩ := hS.2 _ (fun _ _ _ => rfl) f g us ha ho
      refine ⟨x, m, by omega, hv u [] (by omega) (by simp only [List.length_nil]; omega), ?_, hb⟩
      rw [Nat.add_sub_cancel_left]
      exact hg _ _ _ _ _ m1 (by simp only [List.length_nil]; omega) (by simp only [List.length_nil]; omega)
  · obtain ⟨st, st3, e2, e3, cx⟩ := hl k hk
    obtain ⟨w, q9, wW, e, cm⟩ := hlm k hk
    exact ⟨(gl L k).1, st, q9, by omega, e2, e3, e, clR_mk cx cm⟩
end
