/-! the dictionary: one word more, one sentence more -/
section
variable {d B : Nat} {M N : ev_Mem} {W T S s f : Nat} {lo : Int32}
theorem wRel_cw {M2 : ev_Mem} {a a2 : Nat → Int32} {w : Nat} (h29 : M2.1 29 w = M.1 29 w) (h30 : M2.1 30 w = M.1 30 w) (h31 : M2.1 31 w = M.1 31 w) (h32 : M2.1 32 w = M.1 32 w) (h5 : M2.1 (5 + w) = M.1 (5 + w)) (ha : ∀ i, 39 + 13 * w ≤ i → i < 39 + 13 * w + 13 → a2 i = a i) (h : wRel M a w) : wRel M2 a2 w := by
  obtain ⟨⟨h1, h2, h3, h4⟩, ⟨h6, h7, h8⟩, n, h9, h10, h11, h12⟩ := h
  unfold wRel
  rw [h29, h30, h31, h32, h5, ha (39 + 13 * w) (by omega) (by omega), ha (39 + 13 * w + 1) (by omega) (by omega), ha (39 + 13 * w + 2) (by omega) (by omega), ha (39 + 13 * w + 3) (by omega) (by omega)]
  refine ⟨⟨h1, h2, h3, h4⟩, ⟨h6, h7, h8⟩, n, h9, h10, h11, fun i hi => ?_⟩
  rw [ha (39 + 13 * w + 4 + i) (by omega) (by omega)]
  exact h12 i hi
theorem sRel_cw {M2 : ev_Mem} {a a2 : Nat → Int32} {s : Nat} (h42 : M2.1 42 s = M.1 42 s) (h34 : M2.1 (34 + s) = M.1 (34 + s)) (ha : ∀ i, 351 + 6 * s ≤ i → i < 351 + 6 * s + 6 → a2 i = a i) (h : sRel M a s) : sRel M2 a2 s := by
  obtain ⟨h1, n, h2, h3, h4, h5⟩ := h
  unfold sRel
  rw [h42, h34, ha (351 + 6 * s) (by omega) (by omega)]
  refine ⟨h1, n, h2, h3, h4, fun i hi => ?_⟩
  rw [ha (351 + 6 * s + 1 + i) (by omega) (by omega)]
  exact h5 i hi
/-- one word more in the class -/
def twO (M M2 : ev_Mem) (W L : Nat) (g : Nat → Int32) (kd se st : Int32) : Prop := (∀ c, c ≠ 3 → c ≠ 5 + W → c < 29 ∨ 32 < c → M2.1 c = M.1 c) ∧ (∀ j, j ≠ 5 → M2.1 3 j = M.1 3 j) ∧ M2.1 3 5 = nI (W + 1) ∧ (∀ w, w ≠ W → M2.1 29 w = M.1 29 w ∧ M2.1 30 w = M.1 30 w ∧ M2.1 31 w = M.1 31 w ∧ M2.1 32 w = M.1 32 w) ∧ (M2.1 29 W = nI L ∧ M2.1 30 W = kd ∧ M2.1 31 W = se ∧ M2.1 32 W = st) ∧ ∀ i, i < L → M2.1 (5 + W) i = g i
/-- one word more in the model -/
def mtO (N N2 : ev_Mem) (W L : Nat) (g : Nat → Int32) (kd se st : Int32) : Prop := (∀ i, i ≠ 0 → i < 39 + 13 * W ∨ 39 + 13 * W + 13 ≤ i → N2.1 1 i = N.1 1 i) ∧ N2.1 1 0 = nI (W + 1) ∧ (aw N2 W 0 = kd ∧ aw N2 W 1 = se ∧ aw N2 W 2 = st ∧ aw N2 W 3 = nI L) ∧ ∀ i, i < L → aw N2 W (4 + i) = g i
theorem RX_wd {M1 M2 N2 : ev_Mem} {L : Nat} {g : Nat → Int32} {kd se st : Int32} {Wk Sk Tk : Nat}
    (h1 : stRel B M W S 43 47 (N.1 1) ∧ M.1 3 5 = nI W ∧ M.1 3 8 = nI S ∧ N.1 1 2 = nI T ∧ T ≤ 4)
    (h : (stRel B M Wk Sk 100 104 (N.1 2) ∧ M.1 0 16 = nI Wk ∧ M.1 0 17 = nI Sk ∧ N.1 2 2 = nI Tk) ∧ (Wk ≤ W ∧ Sk ≤ S ∧ Tk ≤ T) ∧ (∀ t, t < T → txtR M N t) ∧ tRel M N ∧ fRel M N)
    (hW : W < 24) (hL1 : 1 ≤ L) (hL : L ≤ 9) (hg : ∀ i, i < L → upto (g i) 25) (hk : upto kd 6) (hse : upto se 11) (hst : upto st 9)
    (hx : twO M M1 W L g kd se st) (hx2 : ∀ k, k < 118 → k ≠ 1 → k ≠ 2 → M2.1 k = M1.1 k) (hm : mtO N N2 W L g kd se st) (hn : ∀ k, 2 ≤ k → k ≤ 4 → N2.1 k = N.1 k) (hn0 : N2.1 0 6 = N.1 0 6 ∧ N2.1 0 7 = N.1 0 7) (ht : tRel M2 N2) : RX (B + 2000) M2 N2 := by
  obtain ⟨x1, x2, x3, x4, ⟨x5, x6, x7, x8⟩, x9⟩ := hx
  obtain ⟨m1, m2, ⟨m3, m4, m5, m6⟩, m7⟩ := hm
  obtain ⟨⟨⟨a1, a2, a3⟩, ⟨b1, b2, b3⟩, mR, nR⟩, e1, e2, e3, e4⟩ := h1
  obtain ⟨⟨⟨⟨k1, k2, k3⟩, ⟨k4, k5, k6⟩, kR, nK⟩, k7, k8, k9⟩, ⟨w1, w2, w3⟩, h4, h5, h6⟩ := h
  have c : ∀ k, k = 0 ∨ (33 ≤ k ∧ k < 118) → M2.1 k = M.1 k := fun k hk => by rw [hx2 k (by omega) (by omega) (by omega), x1 k (by omega) (by omega) (by omega)]
  have cr : ∀ w, w < W → M2.1 29 w = M.1 29 w ∧ M2.1 30 w = M.1 30 w ∧ M2.1 31 w = M.1 31 w ∧ M2.1 32 w = M.1 32 w ∧ M2.1 (5 + w) = M.1 (5 + w) := fun w hw => by
    rw [hx2 29 (by omega) (by omega) (by omega), hx2 30 (by omega) (by omega) (by omega), hx2 31 (by omega) (by omega) (by omega), hx2 32 (by omega) (by omega) (by omega), hx2 (5 + w) (by omega) (by omega) (by omega)]
    obtain ⟨q1, q2, q3, q4⟩ := x4 w (by omega)
    exact ⟨q1, q2, q3, q4, x1 (5 + w) (by omega) (by omega) (by omega)⟩
  refine ⟨W + 1, S, T, Wk, Sk, Tk, ⟨stRel_up (B := B) (by omega) ⟨⟨by omega, m2, fun w hw => ?_⟩, ⟨b1, by rw [m1 1 (by omega) (by omega)]; exact b2, fun s hs => ?_⟩, ?_, ?_⟩, ?_, ?_, by rw [m1 2 (by omega) (by omega)]; exact e3, e4⟩, ⟨stRel_up (B := B) (by omega) ⟨⟨k1, by rw [hn 2 (by omega) (by omega)]; exact k2, fun w hw => ?_⟩, ⟨k4, by rw [hn 2 (by omega) (by omega)]; exact k5, fun s hs => ?_⟩, ?_, ?_⟩, by rw [c 0 (by omega)]; exact k7, by rw [c 0 (by omega)]; exact k8, by rw [hn 2 (by omega) (by omega)]; exact k9⟩, ⟨by omega, w2, w3⟩, fun t ht => txtR_cg (fun i _ _ => (c i (by omega)).symm) (hn 4 (by omega) (by omega)).symm (h4 t ht), ht, ?_⟩
  · by_cases e : w = W
    · subst e
      unfold wRel
      rw [hx2 29 (by omega) (by omega) (by omega), hx2 30 (by omega) (by omega) (by omega), hx2 31 (by omega) (by omega) (by omega), hx2 32 (by omega) (by omega) (by omega), hx2 (5 + w) (by omega) (by omega) (by omega), x5, x6, x7, x8]
      have m3 : N2.1 1 (39 + 13 * w) = kd := m3
      have m4 : N2.1 1 (39 + 13 * w + 1) = se := m4
      have m5 : N2.1 1 (39 + 13 * w + 2) = st := m5
      have m6 : N2.1 1 (39 + 13 * w + 3) = nI L := m6
      rw [m3, m4, m5, m6]
      refine ⟨⟨rfl, rfl, rfl, rfl⟩, ⟨hk, hse, hst⟩, L, hL1, hL, rfl, fun i hi => ?_⟩
      have m7 : N2.1 1 (39 + 13 * w + (4 + i)) = g i := m7 i hi
      rw [show 39 + 13 * w + 4 + i = 39 + 13 * w + (4 + i) by omega, m7, x9 i hi]
      exact ⟨rfl, hg i hi⟩
    · obtain ⟨q1, q2, q3, q4, q5⟩ := cr w (by omega)
      exact wRel_cw q1 q2 q3 q4 q5 (fun i _ _ => m1 i (by omega) (by omega)) (a3 w (by omega))
  · exact sRel_cw (by rw [c 42 (by omega)]) (c _ (by omega)) (fun i _ _ => m1 i (by omega) (by omega)) (b3 s hs)
  · exact mRel_cg (fun k _ _ => (c k (by omega)).symm) (m1 4 (by omega) (by omega)).symm (fun i _ _ => (m1 i (by omega) (by omega)).symm) (fun i _ _ => (m1 i (by omega) (by omega)).symm) mR
  · exact nRel_cg (by omega) (fun k _ _ => (c k (by omega)).symm) (m1 2 (by omega) (by omega)).symm (m1 3 (by omega) (by omega)).symm (fun i _ _ => (m1 i (by omega) (by omega)).symm) (fun i _ _ => (m1 i (by omega) (by omega)).symm) nR
  · rw [hx2 3 (by omega) (by omega) (by omega)]; exact x3
  · rw [hx2 3 (by omega) (by omega) (by omega), x2 8 (by omega)]; exact e2
  · obtain ⟨q1, q2, q3, q4, q5⟩ := cr w (by omega)
    exact wRel_cw q1 q2 q3 q4 q5 (fun i _ _ => by rw [hn 2 (by omega) (by omega)]) (k3 w hw)
  · exact sRel_cw (by rw [c 42 (by omega)]) (c _ (by omega)) (fun i _ _ => by rw [hn 2 (by omega) (by omega)]) (k6 s hs)
  · rw [hn 2 (by omega) (by omega)]
    exact mRel_cg (fun k _ _ => (c k (by omega)).symm) rfl (fun _ _ _ => rfl) (fun _ _ _ => rfl) kR
  · rw [hn 2 (by omega) (by omega)]
    exact nRel_cg (Nat.le_refl _) (fun k _ _ => (c k (by omega)).symm) rfl rfl (fun _ _ _ => rfl) (fun _ _ _ => rfl) nK
  · unfold fRel
    rw [c 117 (by omega), c 81 (by omega), hn 3 (by omega) (by omega), hn0.1, hn0.2]
    exact h6
/-- one sentence more -/
def tsO (M M2 : ev_Mem) (S L : Nat) (g : Nat → Int32) : Prop := (∀ c, c ≠ 3 → c ≠ 34 + S → c ≠ 42 → M2.1 c = M.1 c) ∧ (∀ j, j ≠ 8 → M2.1 3 j = M.1 3 j) ∧ M2.1 3 8 = nI (S + 1) ∧ (∀ s, s ≠ S → M2.1 42 s = M.1 42 s) ∧ M2.1 42 S = nI L ∧ ∀ i, i < L → M2.1 (34 + S) i = g i
def msO (N N2 : ev_Mem) (S L : Nat) (g : Nat → Int32) : Prop := (∀ i, i ≠ 1 → i < 351 + 6 * S ∨ 351 + 6 * S + 6 ≤ i → N2.1 1 i = N.1 1 i) ∧ N2.1 1 1 = nI (S + 1) ∧ N2.1 1 (351 + 6 * S) = nI L ∧ ∀ i, i < L → N2.1 1 (351 + 6 * S + 1 + i) = g i
theorem RX_sn {M2 N2 : ev_Mem} {L : Nat} {g : Nat → Int32} {Wk Sk Tk : Nat}
    (h1 : stRel B M W S 43 47 (N.1 1) ∧ M.1 3 5 = nI W ∧ M.1 3 8 = nI S ∧ N.1 1 2 = nI T ∧ T ≤ 4)
    (h : (stRel B M Wk Sk 100 104 (N.1 2) ∧ M.1 0 16 = nI Wk ∧ M.1 0 17 = nI Sk ∧ N.1 2 2 = nI Tk) ∧ (Wk ≤ W ∧ Sk ≤ S ∧ Tk ≤ T) ∧ (∀ t, t < T → txtR M N t) ∧ tRel M N ∧ fRel M N)
    (hS : S < 8) (hL1 : 1 ≤ L) (hL : L ≤ 5) (hg : ∀ i, i < L → upto (g i) 11)
    (hx : tsO M M2 S L g) (hm : msO N N2 S L g) (hn : ∀ k, k ≤ 5 → k ≠ 1 → N2.1 k = N.1 k) : RX (B + 2000) M2 N2 := by
  obtain ⟨x1, x2, x3, x4, x5, x6⟩ := hx
  obtain ⟨m1, m2, m3, m4⟩ := hm
  obtain ⟨⟨⟨a1, a2, a3⟩, ⟨b1, b2, b3⟩, mR, nR⟩, e1, e2, e3, e4⟩ := h1
  obtain ⟨⟨⟨⟨k1, k2, k3⟩, ⟨k4, k5, k6⟩, kR, nK⟩, k7, k8, k9⟩, ⟨w1, w2, w3⟩, h4, ⟨n, t1, t2, t3, t4⟩, h6⟩ := h
  have c : ∀ k, k ≠ 3 → k < 34 ∨ 43 ≤ k → M2.1 k = M.1 k := fun k q1 q2 => x1 k q1 (by omega) (by omega)
  refine ⟨W, S + 1, T, Wk, Sk, Tk, ⟨stRel_up (B := B) (by omega) ⟨⟨a1, by rw [m1 0 (by omega) (by omega)]; exact a2, fun w hw => ?_⟩, ⟨by omega, m2, fun s hs => ?_⟩, ?_, ?_⟩, by rw [x2 5 (by omega)]; exact e1, x3, by rw [m1 2 (by omega) (by omega)]; exact e3, e4⟩, ⟨stRel_up (B := B) (by omega) ⟨⟨k1, by rw [hn 2 (by omega) (by omega)]; exact k2, fun w hw => ?_⟩, ⟨k4, by rw [hn 2 (by omega) (by omega)]; exact k5, fun s hs => ?_⟩, ?_, ?_⟩, by rw [c 0 (by omega) (by omega)]; exact k7, by rw [c 0 (by omega) (by omega)]; exact k8, by rw [hn 2 (by omega) (by omega)]; exact k9⟩, ⟨w1, by omega, w3⟩, fun t ht => txtR_cg (fun i _ _ => (c i (by omega) (by omega)).symm) (hn 4 (by omega) (by omega)).symm (h4 t ht), ⟨n, t1, by rw [c 1 (by omega) (by omega)]; exact t2, by rw [hn 0 (by omega) (by omega)]; exact t3, by rw [c 2 (by omega) (by omega), hn 5 (by omega) (by omega)]; exact t4⟩, ?_⟩
  · exact wRel_cw (by rw [c 29 (by omega) (by omega)]) (by rw [c 30 (by omega) (by omega)]) (by rw [c 31 (by omega) (by omega)]) (by rw [c 32 (by omega) (by omega)]) (c _ (by omega) (by omega)) (fun i _ _ => m1 i (by omega) (by omega)) (a3 w hw)
  · by_cases e : s = S
    · subst e
      unfold sRel
      rw [x5, m3]
      refine ⟨rfl, L, hL1, hL, rfl, fun i hi => ?_⟩
      rw [x6 i hi, m4 i hi]
      exact ⟨rfl, hg i hi⟩
    · exact sRel_cw (x4 s e) (x1 _ (by omega) (by omega) (by omega)) (fun i _ _ => m1 i (by omega) (by omega)) (b3 s (by omega))
  · exact mRel_cg (fun k _ _ => (c k (by omega) (by omega)).symm) (m1 4 (by omega) (by omega)).symm (fun i _ _ => (m1 i (by omega) (by omega)).symm) (fun i _ _ => (m1 i (by omega) (by omega)).symm) mR
  · exact nRel_cg (by omega) (fun k _ _ => (c k (by omega) (by omega)).symm) (m1 2 (by omega) (by omega)).symm (m1 3 (by omega) (by omega)).symm (fun i _ _ => (m1 i (by omega) (by omega)).symm) (fun i _ _ => (m1 i (by omega) (by omega)).symm) nR
  · exact wRel_cw (by rw [c 29 (by omega) (by omega)]) (by rw [c 30 (by omega) (by omega)]) (by rw [c 31 (by omega) (by omega)]) (by rw [c 32 (by omega) (by omega)]) (c _ (by omega) (by omega)) (fun i _ _ => by rw [hn 2 (by omega) (by omega)]) (k3 w hw)
  · exact sRel_cw (x4 s (by omega)) (x1 _ (by omega) (by omega) (by omega)) (fun i _ _ => by rw [hn 2 (by omega) (by omega)]) (k6 s hs)
  · rw [hn 2 (by omega) (by omega)]
    exact mRel_cg (fun k _ _ => (c k (by omega) (by omega)).symm) rfl (fun _ _ _ => rfl) (fun _ _ _ => rfl) kR
  · rw [hn 2 (by omega) (by omega)]
    exact nRel_cg (Nat.le_refl _) (fun k _ _ => (c k (by omega) (by omega)).symm) rfl rfl (fun _ _ _ => rfl) (fun _ _ _ => rfl) nK
  · unfold fRel
    rw [c 117 (by omega) (by omega), c 81 (by omega) (by omega), hn 3 (by omega) (by omega), hn 0 (by omega) (by omega)]
    exact h6
theorem kX0_tellWord {k n fr L : Nat} {kid : Nat → Nat} {kd se st : Int32} (hk : LX[k]? = some (.inl (0, n, 0, kid))) (hW : M.1 3 5 = nI W) (hW24 : W < 24) (hL : L ≤ 9) (hf : fr + L ≤ n) (hn : n < 2 ^ 30) (hk2 : k < 3 ∨ 33 ≤ k) : Cl LX d mX0_tellWord [.ref 3, .ref k, .int (nI fr), .int (nI L), .int kd, .int se, .int st] M (fun r M2 => r = some (.int (nI W)) ∧ twO M M2 W L (fun i => M.1 k (fr + i) - 97) kd se st) := by
  refine Cl_of rfl (Nat.le_of_ble_eq_true rfl) rfl (gX0_tellWord_0 hk ⟨fun z => ?_, fun _ => ⟨fun z => absurd z (nI_nlt (a := 9) (by omega) (by omega)), fun _ => ⟨fun z => absurd z (nI_pos (by omega)), fun _ => ⟨fun _ => ?_, fun z => absurd ?_ z⟩⟩⟩⟩)
  · rw [hW] at z; exact absurd z (nI_ge (b := 24) hW24 (by omega))
  · have lp : ∀ i, i ≤ L → ∀ M2, (∀ c, c ≠ 5 + W → M2.1 c = M.1 c) → (∀ j, j < i → M2.1 (5 + W) j = M.1 k (fr + j) - 97) → Ev LX d mX0_tellWord 32 [some (.ref 3), some (.ref k), some (.int (nI fr)), some (.int (nI L)), some (.int kd), some (.int se), some (.int st), some (.int (nI i))] [] M2 (fun r M2 => r = some (.int (nI W)) ∧ twO M M2 W L (fun i => M.1 k (fr + i) - 97) kd se st) := by
      refine dn ?_ (fun i hi ih => ?_)
      · intro M2 hc hr
        have e3 : M2.1 3 5 = nI W := by rw [hc 3 (by omega)]; exact hW
        have vW : vp_in (nI W) 24 := vp_in_nI hW24 (by omega)
        refine gX0_tellWord_32 hk ⟨fun _ => ?_, fun z => absurd (nI_le (Nat.le_refl _) (by omega)) z⟩
        rw [e3]
        refine ⟨vW, fun A1 f1 => ?_⟩
        rw [nI_clamp (by omega)] at f1
        have g1 : A1.1 3 5 = nI W := by rw [f1, wr_cell (by omega)]; exact e3
        rw [g1]
        refine ⟨vW, fun A2 f2 => ?_⟩
        rw [nI_clamp (by omega)] at f2
        have g2 : A2.1 3 5 = nI W := by rw [f2, wr_cell (by omega)]; exact g1
        rw [g2]
        refine ⟨vW, fun A3 f3 => ?_⟩
        rw [nI_clamp (by omega)] at f3
        have g3 : A3.1 3 5 = nI W := by rw [f3, wr_cell (by omega)]; exact g2
        rw [g3]
        refine ⟨vW, fun A4 f4 A5 f5 => ?_⟩
        rw [nI_clamp (by omega)] at f4
        have g4 : A4.1 3 5 = nI W := by rw [f4, wr_cell (by omega)]; exact g3
        rw [g4, nI_1] at f5
        have r29 : A5.1 29 = upd (M2.1 29) W (nI L) := by rw [f5, wr_cell (by omega), f4, wr_cell (by omega), f3, wr_cell (by omega), f2, wr_cell (by omega), f1, wr_row]
        have r30 : A5.1 30 = upd (M2.1 30) W kd := by rw [f5, wr_cell (by omega), f4, wr_cell (by omega), f3, wr_cell (by omega), f2, wr_row, f1, wr_cell (by omega)]
        have r31 : A5.1 31 = upd (M2.1 31) W se := by rw [f5, wr_cell (by omega), f4, wr_cell (by omega), f3, wr_row, f2, wr_cell (by omega), f1, wr_cell (by omega)]
        have r32 : A5.1 32 = upd (M2.1 32) W st := by rw [f5, wr_cell (by omega), f4, wr_row, f3, wr_cell (by omega), f2, wr_cell (by omega), f1, wr_cell (by omega)]
        have rc : ∀ c, c ≠ 3 → c < 29 ∨ 32 < c → A5.1 c = M2.1 c := fun c q1 q2 => by rw [f5, wr_cell q1, f4, wr_cell (by omega), f3, wr_cell (by omega), f2, wr_cell (by omega), f1, wr_cell (by omega)]
        have r3 : A5.1 3 = upd (M2.1 3) 5 (nI (W + 1)) := by rw [f5, wr_row, f4, wr_cell (by omega), f3, wr_cell (by omega), f2, wr_cell (by omega), f1, wr_cell (by omega)]
        refine ⟨by rw [r3, upd_eq, nI_pred], fun c q1 q2 q3 => by rw [rc c q1 q3]; exact hc c q2, fun j hj => by rw [r3, upd_ne hj, hc 3 (by omega)], by rw [r3, upd_eq], fun w hw => ?_, ?_, fun j hj => by rw [rc (5 + W) (by omega) (by omega)]; exact hr j hj⟩
        · rw [r29, r30, r31, r32, upd_ne hw, upd_ne hw, upd_ne hw, upd_ne hw, hc 29 (by omega), hc 30 (by omega), hc 31 (by omega), hc 32 (by omega)]
          exact ⟨rfl, rfl, rfl, rfl⟩
        · rw [r29, r30, r31, r32, upd_eq, upd_eq, upd_eq, upd_eq]
          exact ⟨rfl, rfl, rfl, rfl⟩
      · intro M2 hc hr
        have e3 : M2.1 3 5 = nI W := by rw [hc 3 (by omega)]; exact hW
        refine gX0_tellWord_32 hk ⟨fun z => absurd z (nI_ge hi (by omega)), fun _ => ?_⟩
        rw [e3, nI_add]
        refine ⟨vp_in_nI hW24 (by omega), vp_in_nI (by omega) (by omega), vp_in_nI (by omega) (by omega), fun A f1 => ?_⟩
        rw [nI_clamp (n := W) (by omega), nI_clamp (n := i) (by omega), nI_clamp (n := fr + i) (by omega), hc k (by omega)] at f1
        rw [nI_1]
        refine ih A (fun c q => by rw [f1, wr_cell q]; exact hc c q) (fun j hj => ?_)
        rw [f1, wr_row]
        by_cases e : j = i
        · rw [e, upd_eq]
        · rw [upd_ne e]; exact hr j (by omega)
    exact lp 0 (by omega) M (fun _ _ => rfl) (fun j hj => absurd hj (by omega))
  · rw [nI_add]; exact nI_le hf (by omega)
theorem kX0_tellSentence {k n fr L : Nat} {kid : Nat → Nat} (hk : LX[k]? = some (.inl (0, n, 0, kid))) (hS : M.1 3 8 = nI S) (hS8 : S < 8) (hL : L ≤ 5) (hf : fr + L ≤ n) (hn : n < 2 ^ 30) (hk2 : k < 34 ∨ 42 ≤ k) : Cl LX d mX0_tellSentence [.ref 3, .ref k, .int (nI fr), .int (nI L)] M (fun r M2 => r = some (.int (nI S)) ∧ tsO M M2 S L (fun i => M.1 k (fr + i))) := by
  refine Cl_of rfl (Nat.le_of_ble_eq_true rfl) rfl (gX0_tellSentence_0 hk ⟨fun z => ?_, fun _ => ⟨fun z => absurd z (nI_nlt (a := 5) (by omega) (by omega)), fun _ => ⟨fun z => absurd z (nI_pos (by omega)), fun _ => ⟨fun _ => ?_, fun z => absurd ?_ z⟩⟩⟩⟩)
  · rw [hS] at z; exact absurd z (nI_ge (b := 8) hS8 (by omega))
  · have lp : ∀ i, i ≤ L → ∀ M2, (∀ c, c ≠ 34 + S → M2.1 c = M.1 c) → (∀ j, j < i → M2.1 (34 + S) j = M.1 k (fr + j)) → Ev LX d mX0_tellSentence 31 [some (.ref 3), some (.ref k), some (.int (nI fr)), some (.int (nI L)), some (.int (nI i))] [] M2 (fun r M2 => r = some (.int (nI S)) ∧ tsO M M2 S L (fun i => M.1 k (fr + i))) := by
      refine dn ?_ (fun i hi ih => ?_)
      · intro M2 hc hr
        have e3 : M2.1 3 8 = nI S := by rw [hc 3 (by omega)]; exact hS
        refine gX0_tellSentence_31 hk ⟨fun _ => ?_, fun z => absurd (nI_le (Nat.le_refl _) (by omega)) z⟩
        rw [e3]
        refine ⟨vp_in_nI hS8 (by omega), fun A1 f1 A2 f2 => ?_⟩
        rw [nI_clamp (by omega)] at f1
        have g1 : A1.1 3 8 = nI S := by rw [f1, wr_cell (by omega)]; exact e3
        rw [g1, nI_1] at f2
        have r42 : A2.1 42 = upd (M2.1 42) S (nI L) := by rw [f2, wr_cell (by omega), f1, wr_row]
        have r3 : A2.1 3 = upd (M2.1 3) 8 (nI (S + 1)) := by rw [f2, wr_row, f1, wr_cell (by omega)]
        have rc : ∀ c, c ≠ 3 → c ≠ 42 → A2.1 c = M2.1 c := fun c q1 q2 => by rw [f2, wr_cell q1, f1, wr_cell q2]
        refine ⟨by rw [r3, upd_eq, nI_pred], fun c q1 q2 q3 => by rw [rc c q1 q3]; exact hc c q2, fun j hj => by rw [r3, upd_ne hj, hc 3 (by omega)], by rw [r3, upd_eq], fun w hw => by rw [r42, upd_ne hw, hc 42 (by omega)], by rw [r42, upd_eq], fun j hj => by rw [rc (34 + S) (by omega) (by omega)]; exact hr j hj⟩
      · intro M2 hc hr
        have e3 : M2.1 3 8 = nI S := by rw [hc 3 (by omega)]; exact hS
        refine gX0_tellSentence_31 hk ⟨fun z => absurd z (nI_ge hi (by omega)), fun _ => ?_⟩
        rw [e3, nI_add]
        refine ⟨vp_in_nI hS8 (by omega), vp_in_nI (by omega) (by omega), vp_in_nI (by omega) (by omega), fun A f1 => ?_⟩
        rw [nI_clamp (n := S) (by omega), nI_clamp (n := i) (by omega), nI_clamp (n := fr + i) (by omega), hc k (by omega)] at f1
        rw [nI_1]
        refine ih A (fun c q => by rw [f1, wr_cell q]; exact hc c q) (fun j hj => ?_)
        rw [f1, wr_row]
        by_cases e : j = i
        · rw [e, upd_eq]
        · rw [upd_ne e]; exact hr j (by omega)
    exact lp 0 (by omega) M (fun _ _ => rfl) (fun j hj => absurd hj (by omega))
  · rw [nI_add]; exact nI_le hf (by omega)
/-- the model's lay: the last part of a word -/
theorem kX11_lay {x1 x2 x3 : Int32} (hW : N.1 1 0 = nI W) (hW24 : W < 24) : Cl LM d mX11_lay [.ref 0, .int x1, .int x2, .int x3] N (fun r N2 => r = some (.int (nI W)) ∧ (∀ k, k ≠ 1 → N2.1 k = N.1 k) ∧ N2.1 1 = upd (upd (upd (upd (N.1 1) (39 + 13 * W) x1) (39 + 13 * W + 1) x2) (39 + 13 * W + 2) x3) 0 (nI (W + 1))) := by
  have e39 : (39 : Int32) + 13 * nI W = nI (39 + 13 * W) := by rw [show (39 : Int32) = nI 39 from rfl, show (13 : Int32) = nI 13 from rfl, pk_mul, nI_add]
  refine Cl_of rfl (Nat.le_of_ble_eq_true rfl) rfl (gX11_lay_0 ?_)
  rw [hW, e39, show nI (39 + 13 * W) + 0 = nI (39 + 13 * W) by rw [show (0 : Int32) = nI 0 from rfl, nI_add, Nat.add_zero], nI_1, show nI (39 + 13 * W) + 2 = nI (39 + 13 * W + 2) by rw [show (2 : Int32) = nI 2 from rfl, nI_add], nI_clamp (by omega), nI_clamp (by omega), nI_clamp (by omega)]
  refine ⟨vp_in_nI (by omega) (by omega), fun A1 f1 => ⟨vp_in_nI (by omega) (by omega), fun A2 f2 => ⟨vp_in_nI (by omega) (by omega), fun A3 f3 A4 f4 => ?_⟩⟩⟩
  have g3 : A3.1 1 0 = nI W := by rw [f3, wr_ne (by omega), f2, wr_ne (by omega), f1, wr_ne (by omega)]; exact hW
  rw [g3, nI_1] at f4
  have r1 : A4.1 1 = upd (upd (upd (upd (N.1 1) (39 + 13 * W) x1) (39 + 13 * W + 1) x2) (39 + 13 * W + 2) x3) 0 (nI (W + 1)) := by rw [f4, wr_row, f3, wr_row, f2, wr_row, f1, wr_row]
  refine ⟨by rw [r1, upd_eq, nI_pred], fun k hk => by rw [f4, wr_cell hk, f3, wr_cell hk, f2, wr_cell hk, f1, wr_cell hk], r1⟩
/-- the model's word: out of its letters, then lay -/
theorem mtO_of {N1 N2 : ev_Mem} {L : Nat} {g : Nat → Int32} {kd se st : Int32} (hW24 : W < 24) (hL : L ≤ 9) (h1 : ∀ i, i < 39 + 13 * W ∨ 39 + 13 * W + 13 ≤ i → N1.1 1 i = N.1 1 i) (h3 : N1.1 1 (39 + 13 * W + 3) = nI L) (h4 : ∀ i, i < L → N1.1 1 (39 + 13 * W + (4 + i)) = g i) (h : N2.1 1 = upd (upd (upd (upd (N1.1 1) (39 + 13 * W) kd) (39 + 13 * W + 1) se) (39 + 13 * W + 2) st) 0 (nI (W + 1))) : mtO N N2 W L g kd se st := by
  unfold mtO aw
  rw [h]
  refine ⟨fun i q1 q2 => ?_, upd_eq, ⟨?_, ?_, ?_, ?_⟩, fun i hi => ?_⟩
  · rw [upd_ne q1, upd_ne (by omega), upd_ne (by omega), upd_ne (by omega)]; exact h1 i q2
  · rw [upd_ne (by omega), upd_ne (by omega), upd_ne (by omega), Nat.add_zero, upd_eq]
  · rw [upd_ne (by omega), upd_ne (by omega), upd_eq]
  · rw [upd_ne (by omega), upd_eq]
  · rw [upd_ne (by omega), upd_ne (by omega), upd_ne (by omega), upd_ne (by omega)]; exact h3
  · rw [upd_ne (by omega), upd_ne (by omega), upd_ne (by omega), upd_ne (by omega)]; exact h4 i hi
/-- what the tape spells -/
def spv (t : Nat → Int32) (n : Nat) (ho : Bool) : Bool := (decide (1 ≤ n) && decide (n ≤ 9)) && al (fun i => iin (t i) 97 122 || (ho && decide (t i = 45))) n
theorem kX7_spells {n : Nat} {ho : Bool} (hn : n ≤ 300) (hM : M.1 1 1 = nI n) : Cl LX (d + 1) mX7_spells [.ref 1, .int (bi ho)] M (ev_R (some (.int (bi (spv (M.1 2) n ho)))) M) := by
  refine Cl_of rfl (Nat.le_of_ble_eq_true rfl) rfl (gX7_spells_0 ?_)
  rw [hM]
  refine ⟨fun z => ⟨?_, rfl⟩, fun z => ⟨fun y => ?_, fun y => ⟨?_, rfl⟩⟩⟩
  · have : n < 1 := (nI_ltI (b := 1) (by omega) (by omega)).mp z
    unfold spv; rw [decide_eq_false (p := 1 ≤ n) (by omega)]; rfl
  · have n1 : 1 ≤ n := by
      rcases Nat.lt_or_ge n 1 with q | q
      · exact absurd (nI_lt (b := 1) q (by omega)) z
      · exact q
    have n9 : n ≤ 9 := (nI_leI (b := 9) (by omega) (by omega)).mp y
    have ev : spv (M.1 2) n ho = al (fun i => iin (M.1 2 i) 97 122 || (ho && decide (M.1 2 i = 45))) n := by unfold spv; rw [decide_eq_true n1, decide_eq_true n9]; rfl
    rw [ev]
    have lp : ∀ i, i ≤ n → (∀ j, j < i → (iin (M.1 2 j) 97 122 || (ho && decide (M.1 2 j = 45))) = true) → Ev LX (d + 1) mX7_spells 21 [some (.ref 1), some (.int (bi ho)), some (.int (nI i))] [] M (ev_R (some (.int (bi (al (fun i => iin (M.1 2 i) 97 122 || (ho && decide (M.1 2 i = 45))) n)))) M) := by
      refine dn ?_ (fun i hi ih => ?_)
      · intro ha
        exact gX7_spells_21 ⟨fun _ => ⟨by rw [al_t.mpr ha]; rfl, rfl⟩, fun q => absurd (by rw [hM]; exact nI_le (Nat.le_refl _) (by omega)) q⟩
      · intro ha
        have nx : (iin (M.1 2 i) 97 122 || (ho && decide (M.1 2 i = 45))) = true → Ev LX (d + 1) mX7_spells 21 [some (.ref 1), some (.int (bi ho)), some (.int (nI i + 1))] [] M (ev_R (some (.int (bi (al (fun i => iin (M.1 2 i) 97 122 || (ho && decide (M.1 2 i = 45))) n)))) M) := fun q => by
          rw [nI_1]
          refine ih (fun j hj => ?_)
          by_cases e : j = i
          · rw [e]; exact q
          · exact ha j (by omega)
        refine gX7_spells_21 ⟨fun q => ?_, fun _ => ?_⟩
        · rw [hM] at q; exact absurd q (nI_ge hi (by omega))
        · rw [nI_clamp (by omega)]
          refine ⟨vp_in_nI (by omega) (by omega), fun q => nx (by rw [q]; rfl), fun q => ⟨fun q2 => ⟨?_, rfl⟩, fun q2 => ⟨vp_in_nI (by omega) (by omega), fun q3 => nx (by rw [(bi_n0 _).mp q2, decide_eq_true q3, Bool.true_and, Bool.or_true]), fun q3 => ⟨?_, rfl⟩⟩⟩⟩
          · rw [al_f hi (by rw [q, (bi_0 _).mp q2]; rfl)]; rfl
          · rw [al_f hi (by rw [q, decide_eq_false q3, Bool.and_false]; rfl)]; rfl
    exact lp 0 (by omega) (fun j hj => absurd hj (by omega))
  · have : ¬ n ≤ 9 := fun q => y (nI_le (b := 9) q (by omega))
    unfold spv; rw [decide_eq_false (p := n ≤ 9) this, Bool.and_false]; rfl
end
