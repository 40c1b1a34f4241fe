/-! CALLS: word, turn, sense -/
section
variable {d B : Nat} {M N : ev_Mem} {W T S s f : Nat} {lo : Int32}
/-- one call, its end told on each side -/
def OQ (D : Nat) (x m : ev_Y) (as : List Value) (B : Nat) (M N : ev_Mem) : Prop := ∃ (v : Option Value), vOK x v ∧ ∃ (QX QM : ev_Mem → Prop), Cl LX D x (.ref 0 :: as) M (fun r M2 => r = v ∧ QX M2) ∧ Cl LM D m (.ref 0 :: as) N (fun r N2 => r = v ∧ QM N2) ∧ ∀ M2 N2, QX M2 → QM N2 → RX (B + 2000) M2 N2
theorem OP.oq {D : Nat} {x m : ev_Y} {as : List Value} (h : OP D x m as B M N) : OQ D x m as B M N := by
  obtain ⟨v, hv, N1, h1, h2⟩ := h
  exact ⟨v, hv, fun M2 => RX (B + 2000) M2 N1, fun N2 => pe N1 N2, h1, h2, fun M2 N2 q1 q2 => RX_pe q2 q1⟩
theorem twO_cg {M2 : ev_Mem} {L : Nat} {g g2 : Nat → Int32} {kd se st : Int32} (hg : ∀ i, i < L → g i = g2 i) (h : twO M M2 W L g kd se st) : twO M M2 W L g2 kd se st := ⟨h.1, h.2.1, h.2.2.1, h.2.2.2.1, h.2.2.2.2.1, fun i hi => by rw [← hg i hi]; exact h.2.2.2.2.2 i hi⟩
theorem RX_wd2 {M1 M2 N2 : ev_Mem} {L : Nat} {g : Nat → Int32} {kd se st : Int32} (h : RX B M N) (hMW : M.1 3 5 = nI W) (hW : W < 24) (hL1 : 1 ≤ L) (hL : L ≤ 9) (hg : ∀ i, i < L → upto (g i) 25) (hk : upto kd 6) (hse : upto se 11) (hst : upto st 9)
    (hx : twO M M1 W L g kd se st) (hx2 : ∀ k, k < 118 → k ≠ 1 → k ≠ 2 → M2.1 k = M1.1 k) (hm : mtO N N2 W L g kd se st) (hn : ∀ k, 2 ≤ k → k ≤ 4 → N2.1 k = N.1 k) (hn0 : N2.1 0 6 = N.1 0 6 ∧ N2.1 0 7 = N.1 0 7) (ht : tRel M2 N2) : RX (B + 2000) M2 N2 := by
  obtain ⟨W2, S, T, Wk, Sk, Tk, h1, h2⟩ := h
  have := h1.1.1.1
  have e : W2 = W := (nI_eq (by omega) (by omega)).mp (h1.2.1.symm.trans hMW)
  subst e
  exact RX_wd h1 h2 hW hL1 hL hg hk hse hst hx hx2 hm hn hn0 ht
theorem RX_sn2 {M2 N2 : ev_Mem} {L : Nat} {g : Nat → Int32} (h : RX B M N) (hMS : M.1 3 8 = nI S) (hS : S < 8) (hL1 : 1 ≤ L) (hL : L ≤ 5) (hg : ∀ i, i < L → upto (g i) 11)
    (hx : tsO M M2 S L g) (hm : msO N N2 S L g) (hn : ∀ k, k ≤ 5 → k ≠ 1 → N2.1 k = N.1 k) : RX (B + 2000) M2 N2 := by
  obtain ⟨W, S2, T, Wk, Sk, Tk, h1, h2⟩ := h
  have := h1.1.2.1.1
  have e : S2 = S := (nI_eq (by omega) (by omega)).mp (h1.2.2.1.symm.trans hMS)
  subst e
  exact RX_sn h1 h2 hS hL1 hL hg hx hm hn
theorem spv_cg {t u : Nat → Int32} {n : Nat} {ho : Bool} (h : ∀ i, i < n → t i = u i) : spv t n ho = spv u n ho := by
  unfold spv
  rw [al_cong (fun i hi => by rw [h i hi])]
theorem btA_at {n k : Nat} (hn : N.1 0 5 = nI n) (hn3 : n ≤ 300) (hk : k < n) : btA N (nI k) = N.1 5 k ∧ baOK N (nI k) := by
  refine ⟨?_, Or.inr (vp_in_nI (by omega) (by omega))⟩
  unfold btA
  rw [hn, if_neg (nI_ge hk (by omega)), nI_clamp (by omega)]
theorem kX11_isSpelled {n : Nat} (hn : n ≤ 300) (hN : N.1 0 5 = nI n) : Cl LM (d + 1) mX11_isSpelled [.ref 0] N (ev_R (some (.int (bi (spv (N.1 5) n false)))) N) := by
  refine Cl_of rfl (Nat.le_of_ble_eq_true rfl) rfl (gX11_isSpelled_0 ?_)
  have lp : ∀ i, i ≤ n → (∀ j, j < i → (iin (N.1 5 j) 97 122 || (false && decide (N.1 5 j = 45))) = true) → Ev LM (d + 1) mX11_isSpelled 2 [some (.ref 0), some (.int (nI i))] [] N (ev_R (some (.int (bi (spv (N.1 5) n false)))) N) := by
    refine dn ?_ (fun i hi ih => ?_)
    · intro ha
      refine gX11_isSpelled_2 ⟨fun _ => ⟨?_, rfl⟩, fun q => absurd (by rw [hN]; exact nI_le (Nat.le_refl _) (by omega)) q⟩
      unfold spv
      rw [al_t.mpr ha, Bool.and_true, hN]
      have : iin (nI n) 1 9 = (decide (1 ≤ n) && decide (n ≤ 9)) := by
        unfold iin
        show (decide (nI 1 ≤ nI n) && decide (nI n ≤ nI 9)) = _
        rw [decide_eq_decide.mpr (nI_leI (a := 1) (b := n) (by omega) (by omega)), decide_eq_decide.mpr (nI_leI (a := n) (b := 9) (by omega) (by omega))]
      rw [this]
    · intro ha
      obtain ⟨b1, b2⟩ := btA_at hN hn hi
      refine gX11_isSpelled_2 ⟨fun q => ?_, fun _ => ⟨b2, ?_⟩⟩
      · rw [hN] at q; exact absurd q (nI_ge hi (by omega))
      · rw [b1]
        refine ⟨fun q => ?_, fun q => ⟨?_, rfl⟩⟩
        · rw [nI_1]
          refine ih (fun j hj => ?_)
          by_cases e : j = i
          · rw [e, q]; rfl
          · exact ha j (by omega)
        · unfold spv
          rw [al_f hi (by rw [q]; rfl), Bool.and_false]; rfl
  exact lp 0 (by omega) (fun j hj => absurd hj (by omega))
def wtv (a b c : Int32) : Bool := iin a 0 6 && (iin b 0 11 && iin c 0 9)
theorem kX11_isWordTold {a b c : Int32} : Cl LM (d + 1) mX11_isWordTold [.int a, .int b, .int c] N (ev_R (some (.int (bi (wtv a b c)))) N) := by
  refine Cl_of rfl (Nat.le_of_ble_eq_true rfl) rfl (gX11_isWordTold_0 ⟨fun z => ⟨?_, rfl⟩, fun z => ⟨fun y => ⟨?_, rfl⟩, fun y => ⟨fun x => ⟨?_, rfl⟩, fun x => ⟨?_, rfl⟩⟩⟩⟩)
  · unfold wtv; rw [z]; rfl
  · unfold wtv; rw [z, y]; rfl
  · unfold wtv; rw [z, y, x]; rfl
  · unfold wtv; rw [z, y, x]; rfl
theorem e39' {W : Nat} : (39 : Int32) + 13 * nI W = nI (39 + 13 * W) := by rw [show (39 : Int32) = nI 39 from rfl, show (13 : Int32) = nI 13 from rfl, pk_mul, nI_add]
theorem RX_tr (h : RX B M N) : ∃ n, n ≤ 300 ∧ M.1 1 1 = nI n ∧ N.1 0 5 = nI n ∧ ∀ i, i < n → M.1 2 i = N.1 5 i ∧ upto (N.1 5 i) 255 := by
  obtain ⟨W, S, T, Wk, Sk, Tk, -, -, -, -, h5, -⟩ := h
  exact h5
theorem RX_WS (h : RX B M N) : ∃ W S, W ≤ 24 ∧ S ≤ 8 ∧ M.1 3 5 = nI W ∧ N.1 1 0 = nI W ∧ M.1 3 8 = nI S ∧ N.1 1 1 = nI S := by
  obtain ⟨W, S, T, Wk, Sk, Tk, ⟨⟨⟨a1, a2, -⟩, ⟨b1, b2, -⟩, -⟩, e1, e2, -⟩, -⟩ := h
  exact ⟨W, S, a1, b1, e1, a2, e2, b2⟩
theorem oq_rf {D r : Nat} {x m : ev_Y} {as : List Value} {v : Option Value} (hr : r < 3) (h : RX B M N) (hx : Cl LX D x (.ref 0 :: as) M (fun z M2 => z = v ∧ xq (rfs M 117 r) M2)) (hm : Cl LM D m (.ref 0 :: as) N (fun z N2 => z = v ∧ pe (rfs N 3 r) N2)) (hv : vOK x v := by first | exact vok _ | exact vol _) : OQ D x m as B M N := (op_rf hr h hx hm hv).oq
theorem op_word (h : RX B M N) (x y u : Int32) : OQ 200 mX10_word mX11_word [.int x, .int y, .int u] B M N := by
  obtain ⟨n, n300, tM, tN, tt⟩ := RX_tr h
  obtain ⟨W, S, W24, S8, mW, nW, -, -⟩ := RX_WS h
  have es : spv (M.1 2) n false = spv (N.1 5) n false := spv_cg fun i hi => (tt i hi).1
  have sx : ∀ d, Cl LX (d + 1) mX7_spells [.ref 1, .int 0] M (ev_R (some (.int (bi (spv (N.1 5) n false)))) M) := fun d => by
    have := kX7_spells (d := d) (ho := false) n300 tM
    rw [es, bi_f] at this
    exact this
  by_cases good : spv (N.1 5) n false = true ∧ wtv x y u = true
  · obtain ⟨g1, g2⟩ := good
    obtain ⟨gx, gy, gu⟩ : iin x 0 6 = true ∧ iin y 0 11 = true ∧ iin u 0 9 = true := by
      unfold wtv at g2
      rw [Bool.and_eq_true, Bool.and_eq_true] at g2
      exact g2
    obtain ⟨⟨n1, n9⟩, ga⟩ : (1 ≤ n ∧ n ≤ 9) ∧ ∀ i, i < n → iin (N.1 5 i) 97 122 = true := by
      unfold spv at g1
      rw [Bool.and_eq_true, Bool.and_eq_true, decide_eq_true_eq, decide_eq_true_eq, al_t] at g1
      exact ⟨g1.1, fun i hi => by have := g1.2 i hi; rw [Bool.false_and, Bool.or_false] at this; exact this⟩
    obtain ⟨x1, x2⟩ := iin_t.mp gx
    obtain ⟨u1, u2⟩ := iin_t.mp gu
    by_cases hW : W = 24
    · refine oq_rf (r := 1) (v := some (.int (-1))) (by omega) h ?_ ?_
      · refine Cl_of rfl (Nat.le_of_ble_eq_true rfl) rfl (gX10_word_0 (d := 199) ⟨_, sx 198, fun zr M2 q => ?_⟩)
        rw [q.1, q.2, g1]
        refine gX10_word_8 (d := 199) ⟨fun z => absurd z (by decide), fun _ => ⟨fun z => absurd z (I_nlt.mpr x1), fun _ => ⟨fun z => absurd z (I_nlt.mpr x2), fun _ => ⟨fun z => bb z gy, fun _ => ⟨fun z => absurd z (I_nlt.mpr u1), fun _ => ⟨fun _ => ?_, fun z => absurd u2 z⟩⟩⟩⟩⟩⟩
        refine ⟨_, Cl_of (Q := fun z M2 => z = some (.int (-1)) ∧ M2 = rfs M 117 1) rfl (Nat.le_of_ble_eq_true rfl) rfl (gX10_addWord_0 (d := 198) lx_2 ⟨fun z => ?_, fun _ => ⟨v13, fun M1 e1 => ⟨rfl, by rw [e1, c1]⟩⟩⟩), fun zr M3 q3 => ?_⟩
        · rw [mW, hW] at z; exact absurd z (by decide)
        · rw [q3.1, q3.2]
          exact gX10_word_66 ⟨fun _ => ⟨rfl, xq.rf⟩, fun z => absurd rfl z⟩
      · refine Cl_of rfl (Nat.le_of_ble_eq_true rfl) rfl (gX11_word_0 (d := 199) ⟨_, kX11_isWordTold (d := 198), fun zr N2 q => ?_⟩)
        rw [q.1, q.2, g2]
        refine gX11_word_6 (d := 199) ⟨fun z => absurd z (by decide), fun _ => ⟨_, kX11_isSpelled (d := 198) n300 tN, fun zr N3 q3 => ?_⟩⟩
        rw [q3.1, q3.2, g1]
        refine gX11_word_13 (d := 199) ⟨fun _ => ⟨fun z => absurd (by rw [nW, hW]; rfl) z, fun _ => ⟨v13, fun N4 e4 => ⟨rfl, by rw [e4, c1]; exact pe.rf⟩⟩⟩, fun z => absurd z (by decide)⟩
    · have hW : W < 24 := by omega
      refine ⟨some (.int (nI W)), vok _, fun M2 => ∃ M1, twO M M1 W n (fun i => N.1 5 i - 97) x y u ∧ M2 = ev_wr M1 1 1 0, fun N2 => mtO N N2 W n (fun i => N.1 5 i - 97) x y u ∧ (∀ k, 2 ≤ k → k ≤ 5 → N2.1 k = N.1 k) ∧ (∀ j, j ≠ 5 → N2.1 0 j = N.1 0 j) ∧ N2.1 0 5 = 0, ?_, ?_, ?_⟩
      · refine Cl_of rfl (Nat.le_of_ble_eq_true rfl) rfl (gX10_word_0 (d := 199) ⟨_, sx 198, fun zr M2 q => ?_⟩)
        rw [q.1, q.2, g1]
        refine gX10_word_8 (d := 199) ⟨fun z => absurd z (by decide), fun _ => ⟨fun z => absurd z (I_nlt.mpr x1), fun _ => ⟨fun z => absurd z (I_nlt.mpr x2), fun _ => ⟨fun z => bb z gy, fun _ => ⟨fun z => absurd z (I_nlt.mpr u1), fun _ => ⟨fun _ => ?_, fun z => absurd u2 z⟩⟩⟩⟩⟩⟩
        rw [tM]
        refine ⟨_, Cl_of (Q := fun z M2 => z = some (.int (nI W)) ∧ twO M M2 W n (fun i => N.1 5 i - 97) x y u) rfl (Nat.le_of_ble_eq_true rfl) rfl (gX10_addWord_0 (d := 198) lx_2 ⟨fun _ => ⟨_, kX0_tellWord (d := 198) (fr := 0) lx_2 mW hW n9 (by omega) (by omega) (by omega), fun zr M3 q3 => ?_⟩, fun z => absurd (by rw [mW]; exact nI_lt (b := 24) hW (by omega)) z⟩), fun zr M3 q3 => ?_⟩
        · rw [q3.1]
          refine gX10_addWord_34 lx_2 ⟨rfl, twO_cg (fun i hi => ?_) q3.2⟩
          rw [Nat.zero_add, (tt i hi).1]
        · rw [q3.1]
          exact gX10_word_66 ⟨fun z => absurd z (nI_nm1 (by omega)), fun _ M4 e4 => ⟨rfl, M3, q3.2, e4⟩⟩
      · refine Cl_of rfl (Nat.le_of_ble_eq_true rfl) rfl (gX11_word_0 (d := 199) ⟨_, kX11_isWordTold (d := 198), fun zr N2 q => ?_⟩)
        rw [q.1, q.2, g2]
        refine gX11_word_6 (d := 199) ⟨fun z => absurd z (by decide), fun _ => ⟨_, kX11_isSpelled (d := 198) n300 tN, fun zr N3 q3 => ?_⟩⟩
        rw [q3.1, q3.2, g1]
        refine gX11_word_13 (d := 199) ⟨fun _ => ⟨fun _ => ?_, fun z => absurd ((nI_eq (b := 24) (by omega) (by omega)).mp (nW.symm.trans z)) (by omega)⟩, fun z => absurd z (by decide)⟩
        rw [nW, e39', show nI (39 + 13 * W) + 3 = nI (39 + 13 * W + 3) by rw [show (3 : Int32) = nI 3 from rfl, nI_add], nI_clamp (by omega), tN]
        refine ⟨vp_in_nI (by omega) (by omega), fun N4 e4 => ?_⟩
        have lp : ∀ i, i ≤ n → ∀ N5, (∀ k, k ≠ 1 → N5.1 k = N.1 k) → (∀ j, j < 39 + 13 * W ∨ 39 + 13 * W + 13 ≤ j → N5.1 1 j = N.1 1 j) → N5.1 1 (39 + 13 * W + 3) = nI n → (∀ j, j < i → N5.1 1 (39 + 13 * W + (4 + j)) = N.1 5 j - 97) → Ev LM 200 mX11_word 69 [some (.ref 0), some (.int x), some (.int y), some (.int u), some (.int (nI (39 + 13 * W))), some (.int (nI i))] [] N5 (fun r N2 => r = some (.int (nI W)) ∧ mtO N N2 W n (fun i => N.1 5 i - 97) x y u ∧ (∀ k, 2 ≤ k → k ≤ 5 → N2.1 k = N.1 k) ∧ (∀ j, j ≠ 5 → N2.1 0 j = N.1 0 j) ∧ N2.1 0 5 = 0) := by
          refine dn ?_ (fun i hi ih => ?_)
          · intro N5 hc ha h3 hl
            refine gX11_word_69 (d := 199) ⟨fun _ N6 e6 => ⟨_, kX11_lay (d := 199) (W := W) (by rw [e6, wr_cell (by omega), ha 0 (by omega)]; exact nW) hW, fun zr N7 q7 => ?_⟩, fun z => absurd ?_ z⟩
            · rw [q7.1]
              refine gX11_word_117 ⟨rfl, mtO_of hW n9 (N1 := N5) ha h3 hl ?_, fun k k1 k2 => ?_, fun j hj => ?_, ?_⟩
              · rw [q7.2.2, e6, wr_cell (by omega)]
              · rw [q7.2.1 k (by omega), e6, wr_cell (by omega)]; exact hc k (by omega)
              · rw [q7.2.1 0 (by omega), e6, wr_ne (by omega), hc 0 (by omega)]
              · rw [q7.2.1 0 (by omega), e6, wr_same]
            · rw [hc 0 (by omega), tN]; exact nI_le (Nat.le_refl _) (by omega)
          · intro N5 hc ha h3 hl
            have tN5 : N5.1 0 5 = nI n := by rw [hc 0 (by omega)]; exact tN
            obtain ⟨b1, b2⟩ := btA_at tN5 n300 hi
            refine gX11_word_69 (d := 199) ⟨fun z => ?_, fun _ => ⟨b2, ?_⟩⟩
            · rw [tN5] at z; exact absurd z (nI_ge hi (by omega))
            · rw [b1, hc 5 (by omega), show nI (39 + 13 * W) + 4 + nI i = nI (39 + 13 * W + (4 + i)) by rw [show (4 : Int32) = nI 4 from rfl, nI_add, nI_add, Nat.add_assoc], nI_clamp (by omega)]
              refine ⟨vp_in_nI (by omega) (by omega), fun N6 e6 => ?_⟩
              rw [nI_1]
              refine ih N6 (fun k hk => by rw [e6, wr_cell hk]; exact hc k hk) (fun j hj => by rw [e6, wr_ne (by omega)]; exact ha j hj) (by rw [e6, wr_ne (by omega)]; exact h3) (fun j hj => ?_)
              rw [e6]
              by_cases e : j = i
              · rw [e, wr_same]
              · rw [wr_ne (by omega)]; exact hl j (by omega)
        exact lp 0 (by omega) N4 (fun k hk => by rw [e4, wr_cell hk]) (fun j hj => by rw [e4, wr_ne (by omega)]) (by rw [e4, wr_same]) (fun j hj => absurd hj (by omega))
      · rintro M2 N2 ⟨M1, q1, rfl⟩ ⟨q2, q3, q4, q5⟩
        obtain ⟨a, ha, ea⟩ := (iin_lit 6 (by omega)).mp gx
        obtain ⟨b, hb, eb⟩ := (iin_lit 11 (by omega)).mp gy
        obtain ⟨c, hc, ec⟩ := (iin_lit 9 (by omega)).mp gu
        refine RX_wd2 h mW hW n1 n9 (fun i hi => ?_) ⟨a, ha, ea⟩ ⟨b, hb, eb⟩ ⟨c, hc, ec⟩ q1 (fun k k1 k2 k3 => wr_cell k2) q2 (fun k k1 k2 => q3 k k1 (by omega)) ⟨q4 6 (by omega), q4 7 (by omega)⟩ ⟨0, by omega, wr_same, q5, fun i hi => absurd hi (by omega)⟩
        obtain ⟨b, hb, eb⟩ := (tt i hi).2
        have gi := iin_t.mp (ga i hi)
        rw [eb] at gi ⊢
        have l1 := (nI_leI (a := 97) (by omega) (by omega)).mp gi.1
        have l2 := (nI_leI (b := 122) (by omega) (by omega)).mp gi.2
        exact ⟨b - 97, by omega, by rw [show (97 : Int32) = nI 97 from rfl, pk_sub l1]⟩
  · refine oq_rf (r := 0) (v := some (.int (-1))) (by omega) h ?_ ?_
    · refine Cl_of rfl (Nat.le_of_ble_eq_true rfl) rfl (gX10_word_0 (d := 199) ⟨_, sx 198, fun zr M2 q => ?_⟩)
      rw [q.1, q.2]
      have fin : ∀ M1, M1 = rfs M 117 (0 : Int32).toNatClampNeg → (some (Value.int (-1)) = some (Value.int (-1)) ∧ xq (rfs M 117 0) M1) := fun M1 e1 => ⟨rfl, by rw [e1, c0]; exact xq.rf⟩
      refine gX10_word_8 (d := 199) ⟨fun _ => ⟨v03, fin⟩, fun z => ⟨fun _ => ⟨v03, fin⟩, fun z1 => ⟨fun _ => ⟨v03, fin⟩, fun z2 => ⟨fun _ => ⟨v03, fin⟩, fun z3 => ⟨fun _ => ⟨v03, fin⟩, fun z4 => ⟨fun z5 => ?_, fun _ => ⟨v03, fin⟩⟩⟩⟩⟩⟩⟩
      refine absurd ⟨(bi_n0 _).mp z, ?_⟩ good
      unfold wtv
      rw [iin_t.mpr ⟨I_nlt.mp z1, I_nlt.mp z2⟩, z3, iin_t.mpr ⟨I_nlt.mp z4, z5⟩]; rfl
    · have fin : ∀ M1, M1 = rfs N 3 (0 : Int32).toNatClampNeg → (some (Value.int (-1)) = some (Value.int (-1)) ∧ pe (rfs N 3 0) M1) := fun M1 e1 => ⟨rfl, by rw [e1, c0]; exact pe.rf⟩
      refine Cl_of rfl (Nat.le_of_ble_eq_true rfl) rfl (gX11_word_0 (d := 199) ⟨_, kX11_isWordTold (d := 198), fun zr N2 q => ?_⟩)
      rw [q.1, q.2]
      refine gX11_word_6 (d := 199) ⟨fun _ => ⟨v03, fin⟩, fun z => ⟨_, kX11_isSpelled (d := 198) n300 tN, fun zr N3 q3 => ?_⟩⟩
      rw [q3.1, q3.2]
      exact gX11_word_13 (d := 199) ⟨fun y => absurd ⟨(bi_n0 _).mp y, (bi_n0 _).mp z⟩ good, fun _ => ⟨v03, fin⟩⟩
end
