/-! THE MODEL READS A CLAUSE -/
section
variable {d : Nat} {N : ev_Mem}
def gl (L : List CL) (i : Nat) : CL := L.getD i (0, [], [])
theorem gl_l {L : List CL} {x : CL} {i : Nat} (h : i < L.length) : gl (L ++ [x]) i = gl L i := by
  unfold gl
  rw [List.getD_eq_getElem?_getD, List.getElem?_append_left h, List.getD_eq_getElem?_getD]
theorem gl_r {L : List CL} {x : CL} : gl (L ++ [x]) L.length = x := by
  unfold gl
  rw [List.getD_eq_getElem?_getD, List.getElem?_append_right (Nat.le_refl _), Nat.sub_self]
  rfl
theorem hsK_a {L : List CL} {x : CL} {k : Nat} : hsK (L ++ [x]) k = (hsK L k || (x.1 == k)) := by
  unfold hsK
  rw [List.any_append, List.any_cons, List.any_nil, Bool.or_false]
theorem hsK_t {L : List CL} {k : Nat} (h : hsK L k = true) : ∃ i, i < L.length ∧ (gl L i).1 = k := by
  unfold hsK at h
  rw [List.any_eq_true] at h
  obtain ⟨x, hx, e⟩ := h
  obtain ⟨i, hi, rfl⟩ := List.mem_iff_getElem.mp hx
  refine ⟨i, hi, ?_⟩
  unfold gl
  rw [List.getD_eq_getElem?_getD, List.getElem?_eq_getElem hi]
  exact beq_iff_eq.mp e
theorem hsK_f {L : List CL} {k i : Nat} (h : hsK L k = false) (hi : i < L.length) : (gl L i).1 ≠ k := by
  intro e
  have : hsK L k = true := by
    unfold hsK
    rw [List.any_eq_true]
    refine ⟨L[i], List.getElem_mem hi, ?_⟩
    unfold gl at e
    rw [List.getD_eq_getElem?_getD, List.getElem?_eq_getElem hi] at e
    exact beq_iff_eq.mpr e
  rw [h] at this
  cases this
def lsM (tx : Nat → Int32) (t0 W : Nat) (L : List CL) : Prop := ∀ i, i < L.length → ∃ w, (gl L i).1 ≤ 9 ∧ w + (gl L i).2.2.length ≤ W ∧ tx (t0 + 1 + 14 * i) = nI (gl L i).1 ∧ ctM tx t0 (t0 + 1 + 14 * i) (gl L i).1 (gl L i).2.1 (gl L i).2.2 w
def onM (x : Int32) (L : List CL) : Prop := ∃ o, o < 8 ∧ x = nI o ∧ ∀ k, k < 3 → o.testBit k = hsK L k
/-- the model behind the clauses L, at the token s -/
def tM (N : ev_Mem) (n t0 : Nat) (L : List CL) (s : Nat) : Prop := ∃ W, mdS N n s ∧ (N.1 0 13 = nI t0 ∧ t0 ≤ 2835) ∧ (N.1 0 14 = nI W ∧ W ≤ s) ∧ onM (N.1 0 20) L ∧ (N.1 4 t0 = nI L.length ∧ L.length ≤ 24) ∧ lsM (N.1 4) t0 W L
def tfm (t0 : Nat) (N N2 : ev_Mem) : Prop := (∀ i, i ≠ 0 → i ≠ 4 → i ≠ 6 → N2.1 i = N.1 i) ∧ (∀ j, j < 8 → N2.1 0 j = N.1 0 j) ∧ (∀ j, j < t0 ∨ t0 + 945 ≤ j → N2.1 4 j = N.1 4 j)
theorem tfm.rf {t0 : Nat} : tfm t0 N N := ⟨fun _ _ _ _ => rfl, fun _ _ => rfl, fun _ _ => rfl⟩
theorem tfm.tr {t0 : Nat} {N1 N2 : ev_Mem} (h : tfm t0 N N1) (k : tfm t0 N1 N2) : tfm t0 N N2 := ⟨fun i a b c => (k.1 i a b c).trans (h.1 i a b c), fun j a => (k.2.1 j a).trans (h.2.1 j a), fun j a => (k.2.2 j a).trans (h.2.2 j a)⟩
theorem tfm_l {t0 w0 x : Nat} {N2 : ev_Mem} (hx : t0 < x ∧ x + 14 ≤ t0 + 337) (h : lfm t0 w0 x N N2) : tfm t0 N N2 := ⟨h.1, fun j a => h.2.1 j (by omega), fun j a => h.2.2 j (by omega) (by omega)⟩
theorem tfm_0 {t0 : Nat} {N2 : ev_Mem} (h : mfd 0 0 N N2) : tfm t0 N N2 := ⟨fun i a b _ => h.1 i a b, fun j a => h.2.1 j (by omega), fun j _ => h.2.2 j (by omega)⟩
theorem tfm_w {t0 j : Nat} {v : Int32} (h : t0 ≤ j ∧ j < t0 + 945) : tfm t0 N (ev_wr N 4 j v) := ⟨fun i _ b _ => wr_cell b, fun i _ => by rw [wr_cell (by omega)], fun i a => wr_ne (by omega)⟩
theorem on_s : ∀ o, o < 8 → ∀ q, q < 3 → nI o ||| (1 <<< (nI q &&& 31)) = nI (o ||| 2 ^ q) ∧ o ||| 2 ^ q < 8 ∧ ∀ k, k < 3 → (o ||| 2 ^ q).testBit k = (o.testBit k || (q == k)) := by decide +kernel
theorem tk59 : ∀ c, c < 256 → (nI (tkN c) = 59 ↔ c = 59) := by decide +kernel
def mcR (N : ev_Mem) (n t0 : Nat) (L : List CL) (O : CR) (r : Option Value) (N2 : ev_Mem) : Prop := (∃ f s2, O = Sum.inl (f, s2) ∧ 1 ≤ f ∧ f ≤ 8 ∧ r = some (.int (nI f)) ∧ N2.1 0 9 = nI s2 ∧ tfm t0 N N2) ∨ (∃ x s2, O = Sum.inr (x, s2) ∧ r = some (.int 0) ∧ tM N2 n t0 (L ++ [x]) s2 ∧ tfm t0 N N2)
/-- behind the word that begins it -/
theorem mcl_go {n s t0 W q : Nat} {L : List CL} {N1 : ev_Mem} (hm : mdS N n s) (hsn : s < n) (h3 : s + 3 ≤ nxs (byN N) n s) (h13 : N.1 0 13 = nI t0) (ht0 : t0 ≤ 2835) (h14 : N.1 0 14 = nI W) (hW : W ≤ s) (hL : N.1 4 t0 = nI L.length) (hL24 : L.length < 24) (hl : lsM (N.1 4) t0 W L) (hq : q ≤ 9)
    (c1 : ∀ i, i ≠ 0 → N1.1 i = N.1 i) (c0 : ∀ j, j ≠ 15 → j ≠ 20 → N1.1 0 j = N.1 0 j) (c2 : N1.2 = N.2) (c15 : N1.1 0 15 = nI q) (c20 : ∀ vs K, onM (N1.1 0 20) (L ++ [(q, vs, K)])) (ec : cs1 (byN N) n L s = cs3 (byN N) n q (bdR (byN N) n q (nxs (byN N) n s))) :
    ∃ Q2 : Option Value → ev_Mem → Prop, Cl LM (d + 10) mX11_nextToken [.ref 0] N1 Q2 ∧ ∀ (zr : Option Value) (zM : ev_Mem), Q2 zr zM → Ev LM (d + 11) mX11_clause 74 [some (.ref 0), some (.int (nI q)), some (.int (nI L.length)), none, none] (zr.toList ++ []) zM (mcR N n t0 L (cs1 (byN N) n L s)) := by
  have b1 : byN N1 = byN N := funext fun i => by unfold byN; rw [c1 5 (by omega)]
  have m1 : mdS N1 n s := ⟨⟨hm.1.1, by rw [c0 5 (by omega) (by omega)]; exact hm.1.2.1, by rw [c1 5 (by omega)]; exact hm.1.2.2⟩, by rw [b1]; exact mkS_f hm.2.1 (fun j a b => c0 j (by omega) (by omega)) c2, hm.2.2⟩
  have f1 : tfm t0 N N1 := ⟨fun i a _ _ => c1 i a, fun j a => c0 j (by omega) (by omega), fun j _ => by rw [c1 4 (by omega)]⟩
  refine ⟨_, md_nx (a := 0) (c := 0) m1 hsn, fun zr N2 hz => ?_⟩
  obtain ⟨rfl, m2, f2, -⟩ := hz
  rw [b1] at m2
  have b2 : byN N2 = byN N := (mfd_by f2).trans b1
  have d0 : ∀ j, j < 8 ∨ 11 < j → j ≠ 15 → j ≠ 20 → N2.1 0 j = N.1 0 j := fun j a b c => (f2.2.1 j a).trans (c0 j b c)
  have d4 : N2.1 4 = N.1 4 := funext fun j => by rw [f2.2.2 j (by omega), c1 4 (by omega)]
  refine gX11_clause_74 fun v1 ev1 => ?_
  obtain ⟨x, ex⟩ : ∃ x, x = t0 + 1 + 14 * L.length := ⟨_, rfl⟩
  have ev : v1 = nI x := by
    rw [ev1, d0 13 (by omega) (by omega) (by omega), h13, show (1 : Int32) = nI 1 from rfl, show (14 : Int32) = nI 14 from rfl, nI_add, pk_mul, nI_add, ex]
  rw [ev, nI_clamp (by omega)]
  refine ⟨vp_in_nI (by omega) (by omega), fun N3 e3 => ?_⟩
  have m3 : mdS N3 n (nxs (byN N) n s) := by rw [e3]; exact md_w m2
  have b3 : byN N3 = byN N := by rw [e3, mfd_by mfd_w]; exact b2
  have g0 : ∀ j, N3.1 0 j = N2.1 0 j := fun j => by rw [e3, wr_cell (by omega)]
  have f3 : tfm t0 N N3 := by rw [e3]; exact (f1.tr (tfm_0 f2)).tr (tfm_w (by omega))
  have hB := bod_m (d := d) (N := N3) (x := x) (q := q) (t0 := t0) (w0 := W) m3 (by omega) ht0 hq (by rw [g0, d0 13 (by omega) (by omega) (by omega)]; exact h13) (by rw [g0, d0 14 (by omega) (by omega) (by omega)]; exact h14) (by omega) (by rw [g0, f2.2.1 15 (by omega)]; exact c15)
  rw [b3] at hB
  rw [ec]
  refine ⟨_, hB, fun zr N4 hz => ?_⟩
  rcases hz with ⟨f, s2, eO, g1, g2, rfl, h9, fm⟩ | ⟨vs, K, s2, eO, rfl, m4, fm, i14, hW2, hc⟩
  · refine gX11_clause_99 ⟨fun z => absurd z (nI_ne0 g1 (by omega)), fun _ => Or.inl ⟨f, s2, by rw [eO]; rfl, g1, g2, rfl, h9, f3.tr (tfm_l (by omega) fm)⟩⟩
  · have f4 := f3.tr (tfm_l (by omega) fm)
    have b4 : byN N4 = byN N := funext fun i => by unfold byN; rw [f4.1 5 (by omega) (by omega) (by omega)]
    have j13 : N4.1 0 13 = nI t0 := by rw [fm.2.1 13 (by omega), g0, d0 13 (by omega) (by omega) (by omega)]; exact h13
    have jt : N4.1 4 t0 = nI L.length := by rw [fm.2.2 t0 (by omega) (by omega), e3, wr_ne (by omega), d4]; exact hL
    have bb := md_b m4
    rw [b4] at bb
    refine gX11_clause_99 ⟨fun _ => ?_, fun z => absurd rfl z⟩
    rw [j13, nI_clamp (by omega), jt, nI_1]
    refine ⟨vp_in_nI (by omega) (by omega), vp_in_nI (by omega) (by omega), fun N5 e5 => ?_⟩
    have m5 : mdS N5 n s2 := by rw [e5]; exact md_w m4
    have b5 : byN N5 = byN N := by rw [e5, mfd_by mfd_w]; exact b4
    have f5 : tfm t0 N N5 := by rw [e5]; exact f4.tr (tfm_w (by omega))
    have h10 : N5.1 0 10 = nI (tkN (srt (byN N) n s2)) := by rw [m5.2.1.2.2.1, b5]
    rw [h10, tk59 _ bb.2.2]
    refine ⟨fun z => ?_, fun z => Or.inl ⟨1, s2, by rw [eO]; unfold cs3; simp only; rw [if_neg z], by omega, by omega, rfl, m5.2.1.1, f5⟩⟩
    have hs2 := srt_end (b := byN N) (n := n) (s := s2) (by omega)
    refine ⟨_, md_nx (a := 0) (c := 0) m5 hs2, fun zr N6 hz => ?_⟩
    obtain ⟨rfl, m6, f6, lt6⟩ := hz
    rw [b5] at m6 lt6
    have d6 : N6.1 4 = N5.1 4 := funext fun j => f6.2.2 j (by omega)
    refine gX11_clause_137 (Or.inr ⟨(q, vs, K), nxs (byN N) n s2, by rw [eO]; unfold cs3; simp only; rw [if_pos z], rfl, ⟨W + K.length, m6, ⟨?_, ht0⟩, ⟨?_, by omega⟩, ?_, ⟨?_, ?_⟩, fun i hi => ?_⟩, f5.tr (tfm_0 f6)⟩)
    · rw [f6.2.1 13 (by omega), e5, wr_cell (by omega)]; exact j13
    · rw [f6.2.1 14 (by omega), e5, wr_cell (by omega)]; exact i14
    · rw [f6.2.1 20 (by omega), e5, wr_cell (by omega), fm.2.1 20 (by omega), g0, f2.2.1 20 (by omega)]; exact c20 vs K
    · rw [d6, e5, wr_same, List.length_append, List.length_singleton]
    · rw [List.length_append, List.length_singleton]; omega
    · rw [List.length_append, List.length_singleton] at hi
      rcases Nat.lt_or_ge i L.length with y | y
      · rw [gl_l y]
        obtain ⟨w, k1, k2, k3, k4⟩ := hl i y
        have old : ∀ j, t0 < j → j < x ∨ x + 14 ≤ j → j < t0 + 337 + 2 * W → N6.1 4 j = N.1 4 j := fun j a b c => by
          rw [d6, e5, wr_ne (by omega), fm.2.2 j (by omega) (by omega), e3, wr_ne (by omega), d4]
        refine ⟨w, k1, by omega, ?_, ctM_cg (fun j a b => old j (by omega) (by omega) (by omega)) (fun j a b => old j (by omega) (by omega) (by omega)) k4⟩
        rw [old _ (by omega) (by omega) (by omega)]; exact k3
      · obtain rfl : i = L.length := by omega
        rw [gl_r]
        refine ⟨W, hq, Nat.le_refl _, ?_, ?_⟩
        · rw [d6, e5, wr_ne (by omega), ← ex, fm.2.2 x (by omega) (by omega), e3, wr_same]
        · rw [← ex]
          refine ctM_cg (fun j a b => ?_) (fun j a b => ?_) hc
          · rw [d6, e5, wr_ne (by omega)]
          · rw [d6, e5, wr_ne (by omega)]
theorem kX11_clause {n s t0 : Nat} {L : List CL} (h : tM N n t0 L s) : Cl LM (d + 11) mX11_clause [.ref 0] N (mcR N n t0 L (cs1 (byN N) n L s)) := by
  obtain ⟨W, hm, ⟨h13, ht0⟩, ⟨h14, hW⟩, ⟨o, ho, h20, ot⟩, ⟨hL, hL24⟩, hl⟩ := h
  refine Cl_of rfl (Nat.le_of_ble_eq_true rfl) rfl (gX11_clause_0 ⟨_, kX11_sortOf (d := d + 5) hm.1 hm.2.1 hm.2.2, fun zr zM hz => ?_⟩)
  rw [hz.1, hz.2]
  rcases cl_c (byN N) n s with e | ⟨q, hq, e, h1, hsn, h3⟩
  · rw [e]
    exact gX11_clause_4 ⟨fun z => absurd z (by decide), fun _ => Or.inl ⟨1, s, by unfold cs1; rw [if_pos e], by omega, by omega, rfl, hm.2.1.1, tfm.rf⟩⟩
  · have e1 : cs1 (byN N) n L s = cs2 (byN N) n L q s := by
      unfold cs1
      rw [if_neg (by rw [e]; exact nI_nm1 (by omega)), e, nI_clamp (by omega)]
    rw [e]
    have v13 : vp_in (N.1 0 13) 3780 := by rw [h13]; exact vp_in_nI (by omega) (by omega)
    have vL : N.1 4 (N.1 0 13).toNatClampNeg = nI L.length := by rw [h13, nI_clamp (by omega)]; exact hL
    have l24 : nI L.length = 24 ↔ L.length = 24 := nI_eq (b := 24) (by omega) (by omega)
    have six : (decide (q < 3) && hsK L q) = false → L.length = 24 → mcR N n t0 L (cs1 (byN N) n L s) (some (.int 6)) N := fun z y => Or.inl ⟨6, s, by rw [e1]; unfold cs2; rw [z, if_neg (by decide), if_pos y], by omega, by omega, rfl, hm.2.1.1, tfm.rf⟩
    have ec : (decide (q < 3) && hsK L q) = false → L.length ≠ 24 → cs1 (byN N) n L s = cs3 (byN N) n q (bdR (byN N) n q (nxs (byN N) n s)) := fun z y => by rw [e1]; unfold cs2; rw [z, if_neg (by decide), if_neg y]
    have q2 : (2 : Int32) < nI q ↔ 2 < q := nI_lt_iff (a := 2) (b := q) (by omega) (by omega)
    refine gX11_clause_4 ⟨fun _ => ⟨fun z => ?_, fun z => ?_⟩, fun z => absurd (nI_0le (by omega)) z⟩
    · have q3 := q2.mp z
      have nl : (decide (q < 3) && hsK L q) = false := by rw [decide_eq_false (by omega), Bool.false_and]
      refine ⟨v13, fun v1 ev => ?_⟩
      rw [ev, vL, l24]
      refine ⟨fun y => ⟨fun _ M1 eM => ?_, fun y2 => absurd z y2⟩, fun y => six nl y⟩
      refine mcl_go (d := d) hm hsn h3 h13 ht0 h14 hW hL (by omega) hl (by omega) (fun i a => by rw [eM, wr_cell a]) (fun j a b => by rw [eM, wr_ne (by omega)]) (by rw [eM]; rfl) (by rw [eM, wr_same]) (fun vs K => ⟨o, ho, by rw [eM, wr_ne (by omega)]; exact h20, fun k hk => ?_⟩) (ec nl y)
      rw [hsK_a, ot k hk, show (((q, vs, K) : CL).1 == k) = false from beq_false_of_ne (by show q ≠ k; omega), Bool.or_false]
    · have q3 : q < 3 := by
        rcases Nat.lt_or_ge q 3 with y | y
        · exact y
        · exact absurd (q2.mpr (by omega)) z
      have hsq : hs (N.1 0 20) (nI q) = hsK L q := by rw [h20, hs_nI (by omega), ot q q3]
      rw [hsq]
      refine ⟨fun y => ⟨v13, fun v1 ev => ?_⟩, fun y => Or.inl ⟨4, s, ?_, by omega, by omega, rfl, hm.2.1.1, tfm.rf⟩⟩
      · have nl : (decide (q < 3) && hsK L q) = false := by rw [y, Bool.and_false]
        rw [ev, vL, l24]
        refine ⟨fun y2 => ⟨fun y3 => absurd y3 z, fun _ M5 e5 M6 e6 => ?_⟩, fun y2 => six nl y2⟩
        obtain ⟨o1, o2, o3⟩ := on_s o ho q q3
        refine mcl_go (d := d) hm hsn h3 h13 ht0 h14 hW hL (by omega) hl (by omega) (fun i a => by rw [e6, wr_cell a, e5, wr_cell a]) (fun j a b => by rw [e6, wr_ne (by omega), e5, wr_ne (by omega)]) (by rw [e6, e5]; rfl) (by rw [e6, wr_same]) (fun vs K => ⟨o ||| 2 ^ q, o2, by rw [e6, wr_ne (by omega), e5, wr_same, h20]; exact o1, fun k hk => ?_⟩) (ec nl y2)
        rw [o3 k hk, hsK_a, ot k hk]
      · rw [e1]
        unfold cs2
        rw [y, decide_eq_true q3]
        rfl
end
