/-! what a script's clauses do: words, sentences, made letters, turned words (the model's rows told whole) -/
section
variable {d B : Nat} {M N : ev_Mem} {W T S s f : Nat} {lo : Int32}
theorem RXe_wd {M1 M2 N2 : ev_Mem} {L : Nat} {g : Nat → Int32} {kd se st : Int32} {Wk Sk Tk : Nat}
    (h1 : stRel B M W S 43 47 (N.1 1) ∧ M.1 3 5 = nI W ∧ M.1 3 8 = nI S ∧ N.1 1 2 = nI T ∧ T ≤ 4)
    (h : (stRel B M Wk Sk 100 104 (N.1 2) ∧ M.1 0 16 = nI Wk ∧ M.1 0 17 = nI Sk ∧ N.1 2 2 = nI Tk) ∧ (Wk ≤ W ∧ Sk ≤ S ∧ Tk ≤ T) ∧ (∀ t, t < T → txtR M N t) ∧ tRel M N ∧ fRel M N)
    (hW : W < 24) (hL1 : 1 ≤ L) (hL : L ≤ 9) (hg : ∀ i, i < L → upto (g i) 25) (hk : upto kd 6) (hse : upto se 11) (hst : upto st 9)
    (hx : twO M M1 W L g kd se st) (hx2 : ∀ k, k < 118 → k ≠ 1 → k ≠ 2 → M2.1 k = M1.1 k) (hm : mtO N N2 W L g kd se st) (hn : ∀ k, 2 ≤ k → k ≤ 4 → N2.1 k = N.1 k) (hn0 : N2.1 0 6 = N.1 0 6 ∧ N2.1 0 7 = N.1 0 7) (ht : tRel M2 N2) : RX B M2 N2 := by
  obtain ⟨x1, x2, x3, x4, ⟨x5, x6, x7, x8⟩, x9⟩ := hx
  obtain ⟨m1, m2, ⟨m3, m4, m5, m6⟩, m7⟩ := hm
  obtain ⟨⟨⟨a1, a2, a3⟩, ⟨b1, b2, b3⟩, mR, nR⟩, e1, e2, e3, e4⟩ := h1
  obtain ⟨⟨⟨⟨k1, k2, k3⟩, ⟨k4, k5, k6⟩, kR, nK⟩, k7, k8, k9⟩, ⟨w1, w2, w3⟩, h4, h5, h6⟩ := h
  have c : ∀ k, k = 0 ∨ (33 ≤ k ∧ k < 118) → M2.1 k = M.1 k := fun k hk => by rw [hx2 k (by omega) (by omega) (by omega), x1 k (by omega) (by omega) (by omega)]
  have cr : ∀ w, w < W → M2.1 29 w = M.1 29 w ∧ M2.1 30 w = M.1 30 w ∧ M2.1 31 w = M.1 31 w ∧ M2.1 32 w = M.1 32 w ∧ M2.1 (5 + w) = M.1 (5 + w) := fun w hw => by
    rw [hx2 29 (by omega) (by omega) (by omega), hx2 30 (by omega) (by omega) (by omega), hx2 31 (by omega) (by omega) (by omega), hx2 32 (by omega) (by omega) (by omega), hx2 (5 + w) (by omega) (by omega) (by omega)]
    obtain ⟨q1, q2, q3, q4⟩ := x4 w (by omega)
    exact ⟨q1, q2, q3, q4, x1 (5 + w) (by omega) (by omega) (by omega)⟩
  refine ⟨W + 1, S, T, Wk, Sk, Tk, ⟨stRel_up (B := B) (by omega) ⟨⟨by omega, m2, fun w hw => ?_⟩, ⟨b1, by rw [m1 1 (by omega) (by omega)]; exact b2, fun s hs => ?_⟩, ?_, ?_⟩, ?_, ?_, by rw [m1 2 (by omega) (by omega)]; exact e3, e4⟩, ⟨stRel_up (B := B) (by omega) ⟨⟨k1, by rw [hn 2 (by omega) (by omega)]; exact k2, fun w hw => ?_⟩, ⟨k4, by rw [hn 2 (by omega) (by omega)]; exact k5, fun s hs => ?_⟩, ?_, ?_⟩, by rw [c 0 (by omega)]; exact k7, by rw [c 0 (by omega)]; exact k8, by rw [hn 2 (by omega) (by omega)]; exact k9⟩, ⟨by omega, w2, w3⟩, fun t ht => txtR_cg (fun i _ _ => (c i (by omega)).symm) (hn 4 (by omega) (by omega)).symm (h4 t ht), ht, ?_⟩
  · by_cases e : w = W
    · subst e
      unfold wRel
      rw [hx2 29 (by omega) (by omega) (by omega), hx2 30 (by omega) (by omega) (by omega), hx2 31 (by omega) (by omega) (by omega), hx2 32 (by omega) (by omega) (by omega), hx2 (5 + w) (by omega) (by omega) (by omega), x5, x6, x7, x8]
      have m3 : N2.1 1 (39 + 13 * w) = kd := m3
      have m4 : N2.1 1 (39 + 13 * w + 1) = se := m4
      have m5 : N2.1 1 (39 + 13 * w + 2) = st := m5
      have m6 : N2.1 1 (39 + 13 * w + 3) = nI L := m6
      rw [m3, m4, m5, m6]
      refine ⟨⟨rfl, rfl, rfl, rfl⟩, ⟨hk, hse, hst⟩, L, hL1, hL, rfl, fun i hi => ?_⟩
      have m7 : N2.1 1 (39 + 13 * w + (4 + i)) = g i := m7 i hi
      rw [show 39 + 13 * w + 4 + i = 39 + 13 * w + (4 + i) by omega, m7, x9 i hi]
      exact ⟨rfl, hg i hi⟩
    · obtain ⟨q1, q2, q3, q4, q5⟩ := cr w (by omega)
      exact wRel_cw q1 q2 q3 q4 q5 (fun i _ _ => m1 i (by omega) (by omega)) (a3 w (by omega))
  · exact sRel_cw (by rw [c 42 (by omega)]) (c _ (by omega)) (fun i _ _ => m1 i (by omega) (by omega)) (b3 s hs)
  · exact mRel_cg (fun k _ _ => (c k (by omega)).symm) (m1 4 (by omega) (by omega)).symm (fun i _ _ => (m1 i (by omega) (by omega)).symm) (fun i _ _ => (m1 i (by omega) (by omega)).symm) mR
  · exact nRel_cg (by omega) (fun k _ _ => (c k (by omega)).symm) (m1 2 (by omega) (by omega)).symm (m1 3 (by omega) (by omega)).symm (fun i _ _ => (m1 i (by omega) (by omega)).symm) (fun i _ _ => (m1 i (by omega) (by omega)).symm) nR
  · rw [hx2 3 (by omega) (by omega) (by omega)]; exact x3
  · rw [hx2 3 (by omega) (by omega) (by omega), x2 8 (by omega)]; exact e2
  · obtain ⟨q1, q2, q3, q4, q5⟩ := cr w (by omega)
    exact wRel_cw q1 q2 q3 q4 q5 (fun i _ _ => by rw [hn 2 (by omega) (by omega)]) (k3 w hw)
  · exact sRel_cw (by rw [c 42 (by omega)]) (c _ (by omega)) (fun i _ _ => by rw [hn 2 (by omega) (by omega)]) (k6 s hs)
  · rw [hn 2 (by omega) (by omega)]
    exact mRel_cg (fun k _ _ => (c k (by omega)).symm) rfl (fun _ _ _ => rfl) (fun _ _ _ => rfl) kR
  · rw [hn 2 (by omega) (by omega)]
    exact nRel_cg (Nat.le_refl _) (fun k _ _ => (c k (by omega)).symm) rfl rfl (fun _ _ _ => rfl) (fun _ _ _ => rfl) nK
  · unfold fRel
    rw [c 117 (by omega), c 81 (by omega), hn 3 (by omega) (by omega), hn0.1, hn0.2]
    exact h6
/-- one sentence more -/
theorem RXe_sn {M2 N2 : ev_Mem} {L : Nat} {g : Nat → Int32} {Wk Sk Tk : Nat}
    (h1 : stRel B M W S 43 47 (N.1 1) ∧ M.1 3 5 = nI W ∧ M.1 3 8 = nI S ∧ N.1 1 2 = nI T ∧ T ≤ 4)
    (h : (stRel B M Wk Sk 100 104 (N.1 2) ∧ M.1 0 16 = nI Wk ∧ M.1 0 17 = nI Sk ∧ N.1 2 2 = nI Tk) ∧ (Wk ≤ W ∧ Sk ≤ S ∧ Tk ≤ T) ∧ (∀ t, t < T → txtR M N t) ∧ tRel M N ∧ fRel M N)
    (hS : S < 8) (hL1 : 1 ≤ L) (hL : L ≤ 5) (hg : ∀ i, i < L → upto (g i) 11)
    (hx : tsO M M2 S L g) (hm : msO N N2 S L g) (hn : ∀ k, k ≤ 5 → k ≠ 1 → N2.1 k = N.1 k) : RX B M2 N2 := by
  obtain ⟨x1, x2, x3, x4, x5, x6⟩ := hx
  obtain ⟨m1, m2, m3, m4⟩ := hm
  obtain ⟨⟨⟨a1, a2, a3⟩, ⟨b1, b2, b3⟩, mR, nR⟩, e1, e2, e3, e4⟩ := h1
  obtain ⟨⟨⟨⟨k1, k2, k3⟩, ⟨k4, k5, k6⟩, kR, nK⟩, k7, k8, k9⟩, ⟨w1, w2, w3⟩, h4, ⟨n, t1, t2, t3, t4⟩, h6⟩ := h
  have c : ∀ k, k ≠ 3 → k < 34 ∨ 43 ≤ k → M2.1 k = M.1 k := fun k q1 q2 => x1 k q1 (by omega) (by omega)
  refine ⟨W, S + 1, T, Wk, Sk, Tk, ⟨stRel_up (B := B) (by omega) ⟨⟨a1, by rw [m1 0 (by omega) (by omega)]; exact a2, fun w hw => ?_⟩, ⟨by omega, m2, fun s hs => ?_⟩, ?_, ?_⟩, by rw [x2 5 (by omega)]; exact e1, x3, by rw [m1 2 (by omega) (by omega)]; exact e3, e4⟩, ⟨stRel_up (B := B) (by omega) ⟨⟨k1, by rw [hn 2 (by omega) (by omega)]; exact k2, fun w hw => ?_⟩, ⟨k4, by rw [hn 2 (by omega) (by omega)]; exact k5, fun s hs => ?_⟩, ?_, ?_⟩, by rw [c 0 (by omega) (by omega)]; exact k7, by rw [c 0 (by omega) (by omega)]; exact k8, by rw [hn 2 (by omega) (by omega)]; exact k9⟩, ⟨w1, by omega, w3⟩, fun t ht => txtR_cg (fun i _ _ => (c i (by omega) (by omega)).symm) (hn 4 (by omega) (by omega)).symm (h4 t ht), ⟨n, t1, by rw [c 1 (by omega) (by omega)]; exact t2, by rw [hn 0 (by omega) (by omega)]; exact t3, by rw [c 2 (by omega) (by omega), hn 5 (by omega) (by omega)]; exact t4⟩, ?_⟩
  · exact wRel_cw (by rw [c 29 (by omega) (by omega)]) (by rw [c 30 (by omega) (by omega)]) (by rw [c 31 (by omega) (by omega)]) (by rw [c 32 (by omega) (by omega)]) (c _ (by omega) (by omega)) (fun i _ _ => m1 i (by omega) (by omega)) (a3 w hw)
  · by_cases e : s = S
    · subst e
      unfold sRel
      rw [x5, m3]
      refine ⟨rfl, L, hL1, hL, rfl, fun i hi => ?_⟩
      rw [x6 i hi, m4 i hi]
      exact ⟨rfl, hg i hi⟩
    · exact sRel_cw (x4 s e) (x1 _ (by omega) (by omega) (by omega)) (fun i _ _ => m1 i (by omega) (by omega)) (b3 s (by omega))
  · exact mRel_cg (fun k _ _ => (c k (by omega) (by omega)).symm) (m1 4 (by omega) (by omega)).symm (fun i _ _ => (m1 i (by omega) (by omega)).symm) (fun i _ _ => (m1 i (by omega) (by omega)).symm) mR
  · exact nRel_cg (by omega) (fun k _ _ => (c k (by omega) (by omega)).symm) (m1 2 (by omega) (by omega)).symm (m1 3 (by omega) (by omega)).symm (fun i _ _ => (m1 i (by omega) (by omega)).symm) (fun i _ _ => (m1 i (by omega) (by omega)).symm) nR
  · exact wRel_cw (by rw [c 29 (by omega) (by omega)]) (by rw [c 30 (by omega) (by omega)]) (by rw [c 31 (by omega) (by omega)]) (by rw [c 32 (by omega) (by omega)]) (c _ (by omega) (by omega)) (fun i _ _ => by rw [hn 2 (by omega) (by omega)]) (k3 w hw)
  · exact sRel_cw (x4 s (by omega)) (x1 _ (by omega) (by omega) (by omega)) (fun i _ _ => by rw [hn 2 (by omega) (by omega)]) (k6 s hs)
  · rw [hn 2 (by omega) (by omega)]
    exact mRel_cg (fun k _ _ => (c k (by omega) (by omega)).symm) rfl (fun _ _ _ => rfl) (fun _ _ _ => rfl) kR
  · rw [hn 2 (by omega) (by omega)]
    exact nRel_cg (Nat.le_refl _) (fun k _ _ => (c k (by omega) (by omega)).symm) rfl rfl (fun _ _ _ => rfl) (fun _ _ _ => rfl) nK
  · unfold fRel
    rw [c 117 (by omega) (by omega), c 81 (by omega) (by omega), hn 3 (by omega) (by omega), hn 0 (by omega) (by omega)]
    exact h6
theorem RXe_wd2 {M1 M2 N2 : ev_Mem} {L : Nat} {g : Nat → Int32} {kd se st : Int32} (h : RX B M N) (hMW : M.1 3 5 = nI W) (hW : W < 24) (hL1 : 1 ≤ L) (hL : L ≤ 9) (hg : ∀ i, i < L → upto (g i) 25) (hk : upto kd 6) (hse : upto se 11) (hst : upto st 9)
    (hx : twO M M1 W L g kd se st) (hx2 : ∀ k, k < 118 → k ≠ 1 → k ≠ 2 → M2.1 k = M1.1 k) (hm : mtO N N2 W L g kd se st) (hn : ∀ k, 2 ≤ k → k ≤ 4 → N2.1 k = N.1 k) (hn0 : N2.1 0 6 = N.1 0 6 ∧ N2.1 0 7 = N.1 0 7) (ht : tRel M2 N2) : RX B M2 N2 := by
  obtain ⟨W2, S, T, Wk, Sk, Tk, h1, h2⟩ := h
  have := h1.1.1.1
  have e : W2 = W := (nI_eq (by omega) (by omega)).mp (h1.2.1.symm.trans hMW)
  subst e
  exact RXe_wd h1 h2 hW hL1 hL hg hk hse hst hx hx2 hm hn hn0 ht
theorem RXe_sn2 {M2 N2 : ev_Mem} {L : Nat} {g : Nat → Int32} (h : RX B M N) (hMS : M.1 3 8 = nI S) (hS : S < 8) (hL1 : 1 ≤ L) (hL : L ≤ 5) (hg : ∀ i, i < L → upto (g i) 11)
    (hx : tsO M M2 S L g) (hm : msO N N2 S L g) (hn : ∀ k, k ≤ 5 → k ≠ 1 → N2.1 k = N.1 k) : RX B M2 N2 := by
  obtain ⟨W, S2, T, Wk, Sk, Tk, h1, h2⟩ := h
  have := h1.1.2.1.1
  have e : S2 = S := (nI_eq (by omega) (by omega)).mp (h1.2.2.1.symm.trans hMS)
  subst e
  exact RXe_sn h1 h2 hS hL1 hL hg hx hm hn
theorem RXe_nt {M2 N2 : ev_Mem} {W S T Wk Sk Tk : Nat}
    (h1 : stRel B M W S 43 47 (N.1 1) ∧ M.1 3 5 = nI W ∧ M.1 3 8 = nI S ∧ N.1 1 2 = nI T ∧ T ≤ 4)
    (h : (stRel B M Wk Sk 100 104 (N.1 2) ∧ M.1 0 16 = nI Wk ∧ M.1 0 17 = nI Sk ∧ N.1 2 2 = nI Tk) ∧ (Wk ≤ W ∧ Sk ≤ S ∧ Tk ≤ T) ∧ (∀ t, t < T → txtR M N t) ∧ tRel M N ∧ fRel M N)
    (c : ∀ k, k < 47 ∨ 60 ≤ k → M2.1 k = M.1 k) (n : ∀ k, k ≤ 5 → k ≠ 1 → N2.1 k = N.1 k) (ha : ∀ i, i < 5 ∨ (8 ≤ i ∧ i < 399) ∨ (525 ≤ i ∧ i < 3315) → N2.1 1 i = N.1 1 i)
    (hn : nRel M2 47 W (N2.1 1)) : RX B M2 N2 := by
  refine RX_dn (B := B) (M := M) (N := N) (T := T) (by omega) ⟨stRel_up (B := B) (by omega) ?_, by rw [ha 2 (by omega)]; exact h1.2.2.2.1, h1.2.2.2.2⟩ ⟨h1.2.1, h1.2.2.1⟩ h (fun k _ => c k (by omega)) (fun k _ _ => c k (by omega)) (fun k _ _ => c k (by omega)) n
  exact stRel_dn h1.1 (fun k _ => c k (by omega)) (fun k _ _ => c k (by omega)) (ha 4 (by omega)) ⟨ha 0 (by omega), ha 1 (by omega)⟩ (fun i q => ha i (by omega)) hn
/-- one call, the model's end told by its start alone, however its scratch rows stand -/
def OV (x m : ev_Y) (ax am : List Value) (B0 : Nat) (N : ev_Mem) : Prop := ∃ (gb : Bool) (N1 : ev_Mem), (∃ M1, RX (B0 + 80) M1 N1) ∧ (N1.1 1 2 = N.1 1 2 ∧ N1.1 4 = N.1 4) ∧ (∀ d Na, pe N Na → Cl LM (d + 20) m (.ref 0 :: am) Na (fun r N2 => r = some (.int (bi gb)) ∧ pe N1 N2)) ∧ ∀ d B M, B < 2 ^ 28 → RX B M N → Cl LX (d + 20) x (.ref 0 :: ax) M (fun r M2 => r = some (.int (bi gb)) ∧ RX (B + 80) M2 N1)
theorem pe_rfs {Na : ev_Mem} {r : Nat} (h : pe N Na) : pe (rfs N 3 r) (rfs Na 3 r) := by
  obtain ⟨⟨h1, h2, h3, h4, h5⟩, h6, h7, h8⟩ := h
  refine ⟨⟨?_, ?_, ?_, ?_, ?_⟩, ?_, ?_, ?_⟩
  · rw [rfs_cell (by omega), rfs_cell (by omega), h1]
  · rw [rfs_cell (by omega), rfs_cell (by omega), h2]
  · unfold rfs
    rw [h3]
    split
    · rw [h3]
    · rw [wr_row, wr_row, h3]
  · rw [rfs_cell (by omega), rfs_cell (by omega), h4]
  · rw [rfs_cell (by omega), rfs_cell (by omega), h5]
  · rw [rfs_cell (by omega), rfs_cell (by omega), h6]
  · rw [rfs_cell (by omega), rfs_cell (by omega), h7]
  · rw [rfs_cell (by omega), rfs_cell (by omega), h8]
theorem pe_row {Na N2 : ev_Mem} {a : Nat → Int32} (h : pe N Na) (h1 : N2.1 1 = a) (hc : ∀ k, k ≠ 1 → k ≤ 5 → N2.1 k = Na.1 k) : pe (rowM N 1 a) N2 := by
  obtain ⟨⟨-, h2, h3, h4, h5⟩, h6, h7, h8⟩ := h
  refine ⟨⟨?_, ?_, ?_, ?_, ?_⟩, ?_, ?_, ?_⟩
  · rw [rowM_s, h1]
  · rw [rowM_n (by omega), hc 2 (by omega) (by omega), h2]
  · rw [rowM_n (by omega), hc 3 (by omega) (by omega), h3]
  · rw [rowM_n (by omega), hc 4 (by omega) (by omega), h4]
  · rw [rowM_n (by omega), hc 5 (by omega) (by omega), h5]
  · rw [rowM_n (by omega), hc 0 (by omega) (by omega), h6]
  · rw [rowM_n (by omega), hc 0 (by omega) (by omega), h7]
  · rw [rowM_n (by omega), hc 0 (by omega) (by omega), h8]
theorem ov_rf {r B0 : Nat} {x m : ev_Y} {ax am : List Value} {M0 : ev_Mem} (hr : r < 3) (h0 : RX B0 M0 N) (hm : ∀ d Na, pe N Na → Cl LM (d + 20) m (.ref 0 :: am) Na (fun z N2 => z = some (.int 0) ∧ pe (rfs Na 3 r) N2)) (hx : ∀ d B M, RX B M N → Cl LX (d + 20) x (.ref 0 :: ax) M (fun z M2 => z = some (.int 0) ∧ xq (rfs M 117 r) M2)) : OV x m ax am B0 N :=
  ⟨false, rfs N 3 r, ⟨_, RX_up (by omega) (RX_rfs hr h0)⟩, ⟨by rw [rfs_cell (by omega)], rfs_cell (by omega)⟩, fun d Na hp => Cl.mono (hm d Na hp) (fun z N2 q => ⟨q.1, (pe_rfs hp).tr q.2⟩), fun d B M _ h => Cl.mono (hx d B M h) (fun z M2 q => ⟨q.1, RX_up (by omega) (RX_xq q.2 (RX_rfs hr h))⟩)⟩
/-- a word's row, its length told and i of its letters -/
def wlA (a : Nat → Int32) (W L : Nat) (g : Nat → Int32) (i : Nat) : Nat → Int32 := fun j => if j = 39 + 13 * W + 3 then nI L else if 39 + 13 * W + 4 ≤ j ∧ j < 39 + 13 * W + 4 + i then g (j - (39 + 13 * W + 4)) else a j
def wdA (a : Nat → Int32) (W L : Nat) (g : Nat → Int32) (kd se st : Int32) : Nat → Int32 := upd (upd (upd (upd (wlA a W L g L) (39 + 13 * W) kd) (39 + 13 * W + 1) se) (39 + 13 * W + 2) st) 0 (nI (W + 1))
theorem wlA_3 {a g : Nat → Int32} {L i : Nat} : wlA a W L g i (39 + 13 * W + 3) = nI L := if_pos rfl
theorem wlA_n {a g : Nat → Int32} {L i j : Nat} (h : j < 39 + 13 * W + 3 ∨ 39 + 13 * W + 4 + i ≤ j) : wlA a W L g i j = a j := by
  unfold wlA
  rw [if_neg (by omega), if_neg (by omega)]
theorem wlA_i {a g : Nat → Int32} {L i j : Nat} (h : j < i) : wlA a W L g i (39 + 13 * W + 4 + j) = g j := by
  unfold wlA
  rw [if_neg (by omega), if_pos (by omega), Nat.add_sub_cancel_left]
theorem wlA_0 {a g : Nat → Int32} {L : Nat} : upd a (39 + 13 * W + 3) (nI L) = wlA a W L g 0 := by
  funext j
  unfold wlA
  by_cases z : j = 39 + 13 * W + 3
  · rw [z, upd_eq, if_pos rfl]
  · rw [upd_ne z, if_neg z, if_neg (by omega)]
theorem wlA_s {a g : Nat → Int32} {L i : Nat} {v : Int32} (hv : v = g i) : upd (wlA a W L g i) (39 + 13 * W + 4 + i) v = wlA a W L g (i + 1) := by
  subst hv
  funext j
  by_cases z : j = 39 + 13 * W + 4 + i
  · rw [z, upd_eq, wlA_i (by omega)]
  · rw [upd_ne z]
    unfold wlA
    by_cases y : j = 39 + 13 * W + 3
    · rw [if_pos y, if_pos y]
    · rw [if_neg y, if_neg y]
      by_cases x : 39 + 13 * W + 4 ≤ j ∧ j < 39 + 13 * W + 4 + i
      · rw [if_pos x, if_pos (by omega)]
      · rw [if_neg x, if_neg (by omega)]
theorem wlA_cg {a g g2 : Nat → Int32} {L i : Nat} (h : ∀ j, j < i → g j = g2 j) : wlA a W L g i = wlA a W L g2 i := by
  funext j
  unfold wlA
  split
  · rfl
  · split
    · exact h _ (by omega)
    · rfl
theorem mt_wd {L : Nat} {g : Nat → Int32} {kd se st : Int32} (hW24 : W < 24) (hL : L ≤ 9) : mtO N (rowM N 1 (wdA (N.1 1) W L g kd se st)) W L g kd se st := by
  refine mtO_of (N1 := rowM N 1 (wlA (N.1 1) W L g L)) hW24 hL (fun i hi => ?_) ?_ (fun i hi => ?_) ?_
  · rw [rowM_s, wlA_n (by omega)]
  · rw [rowM_s, wlA_3]
  · rw [rowM_s, ← Nat.add_assoc, wlA_i hi]
  · rw [rowM_s, rowM_s]; rfl
/-- one word more, in some memory of the class -/
theorem tw_ex (M : ev_Mem) {L : Nat} (g : Nat → Int32) (kd se st : Int32) (hW : W < 24) : ∃ M2, twO M M2 W L g kd se st ∧ (∀ k, k = 1 ∨ k = 2 → M2.1 k = M.1 k) := by
  refine ⟨(fun c j => if c = 3 then (if j = 5 then nI (W + 1) else M.1 3 j) else if c = 5 + W then (if j < L then g j else M.1 c j) else if c = 29 then (if j = W then nI L else M.1 c j) else if c = 30 then (if j = W then kd else M.1 c j) else if c = 31 then (if j = W then se else M.1 c j) else if c = 32 then (if j = W then st else M.1 c j) else M.1 c j, M.2), ⟨fun c h1 h2 h3 => ?_, fun j hj => ?_, ?_, fun w hw => ⟨?_, ?_, ?_, ?_⟩, ⟨?_, ?_, ?_, ?_⟩, fun i hi => ?_⟩, fun k hk => ?_⟩
  · funext j; dsimp only; rw [if_neg h1, if_neg h2, if_neg (by omega), if_neg (by omega), if_neg (by omega), if_neg (by omega)]
  · dsimp only; rw [if_pos rfl, if_neg hj]
  · dsimp only; rw [if_pos rfl, if_pos rfl]
  · dsimp only; rw [if_neg (by omega), if_neg (by omega), if_pos rfl, if_neg hw]
  · dsimp only; rw [if_neg (by omega), if_neg (by omega), if_neg (by omega), if_pos rfl, if_neg hw]
  · dsimp only; rw [if_neg (by omega), if_neg (by omega), if_neg (by omega), if_neg (by omega), if_pos rfl, if_neg hw]
  · dsimp only; rw [if_neg (by omega), if_neg (by omega), if_neg (by omega), if_neg (by omega), if_neg (by omega), if_pos rfl, if_neg hw]
  · dsimp only; rw [if_neg (by omega), if_neg (by omega), if_pos rfl, if_pos rfl]
  · dsimp only; rw [if_neg (by omega), if_neg (by omega), if_neg (by omega), if_pos rfl, if_pos rfl]
  · dsimp only; rw [if_neg (by omega), if_neg (by omega), if_neg (by omega), if_neg (by omega), if_pos rfl, if_pos rfl]
  · dsimp only; rw [if_neg (by omega), if_neg (by omega), if_neg (by omega), if_neg (by omega), if_neg (by omega), if_pos rfl, if_pos rfl]
  · dsimp only; rw [if_neg (by omega), if_pos rfl, if_pos hi]
  · funext j; dsimp only; rw [if_neg (by omega), if_neg (by omega), if_neg (by omega), if_neg (by omega), if_neg (by omega), if_neg (by omega)]
theorem ts_ex (M : ev_Mem) {L : Nat} (g : Nat → Int32) (hS : S < 8) : ∃ M2, tsO M M2 S L g := by
  refine ⟨(fun c j => if c = 3 then (if j = 8 then nI (S + 1) else M.1 3 j) else if c = 34 + S then (if j < L then g j else M.1 c j) else if c = 42 then (if j = S then nI L else M.1 c j) else M.1 c j, M.2), fun c h1 h2 h3 => ?_, fun j hj => ?_, ?_, fun s hs => ?_, ?_, fun i hi => ?_⟩
  · funext j; dsimp only; rw [if_neg h1, if_neg h2, if_neg h3]
  · dsimp only; rw [if_pos rfl, if_neg hj]
  · dsimp only; rw [if_pos rfl, if_pos rfl]
  · dsimp only; rw [if_neg (by omega), if_neg (by omega), if_pos rfl, if_neg hs]
  · dsimp only; rw [if_neg (by omega), if_neg (by omega), if_pos rfl, if_pos rfl]
  · dsimp only; rw [if_neg (by omega), if_pos rfl, if_pos hi]
/-- RX with one word more on both sides -/
theorem RX_wdA {M1 M2 : ev_Mem} {L : Nat} {g : Nat → Int32} {kd se st : Int32} (h : RX B M N) (hxq : xq M M1) (h3 : M1.1 3 = M.1 3) (hMW : M.1 3 5 = nI W) (hW : W < 24) (hL1 : 1 ≤ L) (hL : L ≤ 9) (hg : ∀ i, i < L → upto (g i) 25) (hk : upto kd 6) (hse : upto se 11) (hst : upto st 9) (hx : twO M1 M2 W L g kd se st) : RX B M2 (rowM N 1 (wdA (N.1 1) W L g kd se st)) := by
  have hR := RX_xq hxq h
  obtain ⟨n, t1, t2, t3, t4⟩ := RX_tr hR
  refine RXe_wd2 hR (by rw [h3]; exact hMW) hW hL1 hL hg hk hse hst hx (fun _ _ _ _ => rfl) (mt_wd hW hL) (fun k k1 k2 => rowM_n (by omega)) (by rw [rowM_n (by omega)]; exact ⟨rfl, rfl⟩) ⟨n, t1, ?_, by rw [rowM_n (by omega)]; exact t3, ?_⟩
  · rw [hx.1 1 (by omega) (by omega) (by omega)]; exact t2
  · rw [hx.1 2 (by omega) (by omega) (by omega), rowM_n (by omega)]; exact t4
/-- the word of a script -/
theorem v_word {B0 x L : Nat} {M0 : ev_Mem} (h0 : RX B0 M0 N) (hx : x + 14 ≤ 3780) (hL1 : 1 ≤ L) (hL : L ≤ 9) (x4 : N.1 4 (x + 4) = nI L) (xl : ∀ i, i < L → upto (N.1 4 (x + 5 + i)) 25) (x1 : upto (N.1 4 (x + 1)) 6) (x2 : upto (N.1 4 (x + 2)) 11) (x3 : upto (N.1 4 (x + 3)) 9) :
    ∃ (v : Int32) (N1 : ev_Mem), (v = -1 ∨ ¬ v < 0) ∧ (∃ M1, RX (B0 + 80) M1 N1) ∧ (N1.1 1 2 = N.1 1 2 ∧ N1.1 4 = N.1 4) ∧ (∀ d Na, pe N Na → Cl LM (d + 2) mX11_wordOf [.ref 0, .int (nI x)] Na (fun r N2 => r = some (.int v) ∧ pe N1 N2)) ∧ ∀ d B M, B < 2 ^ 28 → RX B M N → ∀ k st, LX[k]? = some (.inl (0, 300, 0, ev_k0)) → 33 ≤ k → st + 1 + L ≤ 300 → (∀ i, i < L → M.1 k (st + 1 + i) - 97 = N.1 4 (x + 5 + i)) → Cl LX (d + 2) mX10_addWord [.ref 0, .ref k, .int (nI (st + 1)), .int (nI L), .int (N.1 4 (x + 1)), .int (N.1 4 (x + 2)), .int (N.1 4 (x + 3))] M (fun r M2 => r = some (.int v) ∧ RX (B + 80) M2 N1) := by
  obtain ⟨W, S, W24, S8, mW, nW, -, -⟩ := RX_WS h0
  have mWM : ∀ {B M}, RX B M N → M.1 3 5 = nI W := fun h => by
    obtain ⟨W2, S2, W24', -, mW', nW', -, -⟩ := RX_WS h
    have : W2 = W := (nI_eq (by omega) (by omega)).mp (nW'.symm.trans nW)
    rw [mW', this]
  by_cases hW : W = 24
  · refine ⟨-1, rfs N 3 1, Or.inl rfl, ⟨_, RX_up (by omega) (RX_rfs (r := 1) (by omega) h0)⟩, ⟨by rw [rfs_cell (by omega)], rfs_cell (by omega)⟩, fun d Na hp => ?_, fun d B M hB h k st hk hk2 hst hl => ?_⟩
    · refine Cl_of rfl (Nat.le_of_ble_eq_true rfl) rfl (gX11_wordOf_0 (d := d + 1) ⟨fun z => absurd (by rw [← hp.1.1, nW, hW]; rfl) z, fun _ => ⟨v13, fun M2 e2 => ⟨rfl, ?_⟩⟩⟩)
      rw [e2, c1]; exact pe_rfs hp
    · refine Cl_of rfl (Nat.le_of_ble_eq_true rfl) rfl (gX10_addWord_0 (d := d + 1) hk ⟨fun z => ?_, fun _ => ⟨v13, fun M2 e2 => ⟨rfl, ?_⟩⟩⟩)
      · rw [mWM h, hW] at z; exact absurd z (by decide)
      · rw [e2, c1]; exact RX_up (by omega) (RX_rfs (by omega) h)
  · have hW : W < 24 := by omega
    refine ⟨nI W, rowM N 1 (wdA (N.1 1) W L (fun i => N.1 4 (x + 5 + i)) (N.1 4 (x + 1)) (N.1 4 (x + 2)) (N.1 4 (x + 3))), Or.inr (nI_pos (by omega)), ?_, ⟨by rw [rowM_s]; unfold wdA; rw [upd_ne (by omega), upd_ne (by omega), upd_ne (by omega), upd_ne (by omega), wlA_n (by omega)], rowM_n (by omega)⟩, fun d Na hp => ?_, fun d B M hB h k st hk hk2 hst hl => ?_⟩
    · obtain ⟨M2, o, -⟩ := tw_ex M0 (L := L) (fun i => N.1 4 (x + 5 + i)) (N.1 4 (x + 1)) (N.1 4 (x + 2)) (N.1 4 (x + 3)) hW
      exact ⟨M2, RX_up (by omega) (RX_wdA h0 xq.rf rfl mW hW hL1 hL xl x1 x2 x3 o)⟩
    · have n4 : Na.1 4 = N.1 4 := hp.1.2.2.2.1.symm
      have n1 : Na.1 1 = N.1 1 := hp.1.1.symm
      refine Cl_of rfl (Nat.le_of_ble_eq_true rfl) rfl (gX11_wordOf_0 (d := d + 1) ⟨fun _ => ?_, fun z => ?_⟩)
      · rw [n1, n4, nW, e39', show nI x + 4 = nI (x + 4) from nI_add x 4, show nI (39 + 13 * W) + 3 = nI (39 + 13 * W + 3) from nI_add _ 3, nI_clamp (by omega), nI_clamp (by omega), x4]
        refine ⟨vp_in_nI (by omega) (by omega), vp_in_nI (by omega) (by omega), fun N2 e2 => ?_⟩
        rw [wr_rM, n1, wlA_0 (g := fun i => N.1 4 (x + 5 + i))] at e2
        rw [e2]
        have lp : ∀ i, i ≤ L → Ev LM (d + 2) mX11_wordOf 48 [some (.ref 0), some (.int (nI x)), some (.int (nI (39 + 13 * W))), some (.int (nI i))] [] (rowM Na 1 (wlA (N.1 1) W L (fun i => N.1 4 (x + 5 + i)) i)) (fun r N2 => r = some (.int (nI W)) ∧ pe (rowM N 1 (wdA (N.1 1) W L (fun i => N.1 4 (x + 5 + i)) (N.1 4 (x + 1)) (N.1 4 (x + 2)) (N.1 4 (x + 3)))) N2) := by
          have t4 : ∀ a, (rowM Na 1 a).1 4 = N.1 4 := fun a => by rw [rowM_n (by omega), n4]
          refine dn ?_ (fun i hi ih => ?_)
          · refine gX11_wordOf_48 (d := d + 1) ?_
            rw [t4, show nI x + 4 = nI (x + 4) from nI_add x 4, nI_1, show nI x + 2 = nI (x + 2) from nI_add x 2, show nI x + 3 = nI (x + 3) from nI_add x 3, nI_clamp (by omega), nI_clamp (by omega), nI_clamp (by omega), nI_clamp (by omega), x4]
            refine ⟨vp_in_nI (by omega) (by omega), fun _ => ⟨vp_in_nI (by omega) (by omega), vp_in_nI (by omega) (by omega), vp_in_nI (by omega) (by omega), _, kX11_lay (d := d + 1) (W := W) (by rw [rowM_s, wlA_n (by omega)]; exact nW) hW, fun zr N3 q3 => ?_⟩, fun z => absurd (nI_le (Nat.le_refl _) (by omega)) z⟩
            rw [q3.1]
            refine gX11_wordOf_114 ⟨rfl, pe_row hp ?_ (fun k k1 _ => by rw [q3.2.1 k k1, rowM_n k1])⟩
            rw [q3.2.2, rowM_s]; rfl
          · refine gX11_wordOf_48 (d := d + 1) ?_
            rw [t4, show nI x + 4 = nI (x + 4) from nI_add x 4, show nI x + 5 = nI (x + 5) from nI_add x 5, show nI (39 + 13 * W) + 4 = nI (39 + 13 * W + 4) from nI_add _ 4, nI_add, nI_add, nI_clamp (by omega), nI_clamp (n := x + 5 + i) (by omega), nI_clamp (n := 39 + 13 * W + 4 + i) (by omega), x4]
            refine ⟨vp_in_nI (by omega) (by omega), fun z => absurd z (nI_ge hi (by omega)), fun _ => ⟨vp_in_nI (by omega) (by omega), vp_in_nI (by omega) (by omega), fun N3 e3 => ?_⟩⟩
            rw [rowM_w, wlA_s rfl] at e3
            rw [nI_1, e3]; exact ih
        exact lp 0 (by omega)
      · rw [n1] at z
        exact absurd ((nI_eq (b := 24) (by omega) (by omega)).mp (nW.symm.trans z)) (by omega)
    · refine Cl_of rfl (Nat.le_of_ble_eq_true rfl) rfl (gX10_addWord_0 (d := d + 1) hk ⟨fun _ => ⟨_, kX0_tellWord (d := d + 1) (fr := st + 1) hk (mWM h) hW hL (by omega) (by omega) (by omega), fun zr M3 q3 => ?_⟩, fun z => absurd (by rw [mWM h]; exact nI_lt (b := 24) hW (by omega)) z⟩)
      rw [q3.1]
      refine gX10_addWord_34 hk ⟨rfl, RX_up (B := B) (by omega) (RX_wdA h xq.rf rfl (mWM h) hW hL1 hL xl x1 x2 x3 (twO_cg hl q3.2))⟩
/-- a sentence's row -/
def slA (a : Nat → Int32) (S n : Nat) (g : Nat → Int32) (i : Nat) : Nat → Int32 := fun j => if j = 351 + 6 * S then nI n else if 351 + 6 * S + 1 ≤ j ∧ j < 351 + 6 * S + 1 + i then g (j - (351 + 6 * S + 1)) else a j
def snA (a : Nat → Int32) (S n : Nat) (g : Nat → Int32) : Nat → Int32 := upd (slA a S n g n) 1 (nI (S + 1))
theorem slA_0 {a g : Nat → Int32} {n : Nat} : upd a (351 + 6 * S) (nI n) = slA a S n g 0 := by
  funext j
  unfold slA
  by_cases z : j = 351 + 6 * S
  · rw [z, upd_eq, if_pos rfl]
  · rw [upd_ne z, if_neg z, if_neg (by omega)]
theorem slA_s {a g : Nat → Int32} {n i : Nat} {v : Int32} (hv : v = g i) : upd (slA a S n g i) (351 + 6 * S + 1 + i) v = slA a S n g (i + 1) := by
  subst hv
  funext j
  unfold slA
  by_cases z : j = 351 + 6 * S + 1 + i
  · rw [z, upd_eq, if_neg (by omega), if_pos (by omega), Nat.add_sub_cancel_left]
  · rw [upd_ne z]
    by_cases y : j = 351 + 6 * S
    · rw [if_pos y, if_pos y]
    · rw [if_neg y, if_neg y]
      by_cases x : 351 + 6 * S + 1 ≤ j ∧ j < 351 + 6 * S + 1 + i
      · rw [if_pos x, if_pos (by omega)]
      · rw [if_neg x, if_neg (by omega)]
theorem slA_n {a g : Nat → Int32} {n i j : Nat} (h : j < 351 + 6 * S ∨ 351 + 6 * S + 1 + i ≤ j) : slA a S n g i j = a j := by
  unfold slA
  rw [if_neg (by omega), if_neg (by omega)]
theorem ms_sn {n : Nat} {g : Nat → Int32} (hS : S < 8) (hn : n ≤ 5) : msO N (rowM N 1 (snA (N.1 1) S n g)) S n g := by
  unfold msO
  rw [rowM_s]
  unfold snA
  refine ⟨fun i h1 h2 => ?_, upd_eq, ?_, fun i hi => ?_⟩
  · rw [upd_ne h1, slA_n (by omega)]
  · rw [upd_ne (by omega)]; exact if_pos rfl
  · rw [upd_ne (by omega)]
    unfold slA
    rw [if_neg (by omega), if_pos (by omega), Nat.add_sub_cancel_left]
/-- the sentence of a script -/
theorem v_said {B0 x n : Nat} {M0 : ev_Mem} (h0 : RX B0 M0 N) (hx : x + 14 ≤ 3780) (hn1 : 1 ≤ n) (hn : n ≤ 5) (x1 : N.1 4 (x + 1) = nI n) (xl : ∀ i, i < n → upto (N.1 4 (x + 2 + i)) 11) :
    ∃ (v : Int32) (N1 : ev_Mem), (v = -1 ∨ ¬ v < 0) ∧ (∃ M1, RX (B0 + 80) M1 N1) ∧ (N1.1 1 2 = N.1 1 2 ∧ N1.1 4 = N.1 4) ∧ (∀ d Na, pe N Na → Cl LM (d + 2) mX11_isSaid [.ref 0, .int (nI x)] Na (fun r N2 => r = some (.int (if v < 0 then 0 else 1)) ∧ pe N1 N2)) ∧ ∀ d B M, B < 2 ^ 28 → RX B M N → ∀ k st, LX[k]? = some (.inl (0, 300, 0, ev_k0)) → 42 ≤ k → st + 1 + n ≤ 300 → (∀ i, i < n → M.1 k (st + 1 + i) = N.1 4 (x + 2 + i)) → Cl LX (d + 2) mX10_addSentence [.ref 0, .ref k, .int (nI (st + 1)), .int (nI n)] M (fun r M2 => r = some (.int v) ∧ RX (B + 80) M2 N1) := by
  obtain ⟨W, S, W24, S8, -, -, mS, nS⟩ := RX_WS h0
  have mSM : ∀ {B M}, RX B M N → M.1 3 8 = nI S := fun h => by
    obtain ⟨W2, S2, -, S8', -, -, mS', nS'⟩ := RX_WS h
    have : S2 = S := (nI_eq (by omega) (by omega)).mp (nS'.symm.trans nS)
    rw [mS', this]
  have xin : ∀ i, i < n → iin (N.1 4 (x + 2 + i)) 0 11 = true := fun i hi => (iin_lit 11 (by omega)).mpr (by obtain ⟨j, hj, e⟩ := xl i hi; exact ⟨j, hj, e⟩)
  have lay : ∀ d Na Q, pe N Na → (∀ Nb, pe N Nb → (∀ i, i < n → Nb.1 10 i = N.1 4 (x + 2 + i)) → ∃ Q2, Cl LM (d + 1) mX11_sentenceOf [.ref 0, .int (nI n)] Nb Q2 ∧ ∀ zr zM, Q2 zr zM → Ev LM (d + 2) mX11_isSaid 48 [none, none, none] (zr.toList ++ []) zM Q) → Ev LM (d + 2) mX11_isSaid 0 [some (.ref 0), some (.int (nI x)), none] [] Na Q := fun d Na Q hp hk => by
    refine gX11_isSaid_0 ?_
    have lp : ∀ i, i ≤ n → ∀ Nb, pe N Nb → (∀ j, j < i → Nb.1 10 j = N.1 4 (x + 2 + j)) → Ev LM (d + 2) mX11_isSaid 2 [some (.ref 0), some (.int (nI x)), some (.int (nI i))] [] Nb Q := by
      refine dn ?_ (fun i hi ih => ?_)
      · intro Nb hb hr
        refine gX11_isSaid_2 (d := d + 1) ?_
        rw [← hb.1.2.2.2.1, nI_1, nI_clamp (by omega), x1]
        exact ⟨vp_in_nI (by omega) (by omega), fun _ => ⟨vp_in_nI (by omega) (by omega), hk Nb hb hr⟩, fun z => absurd (nI_le (Nat.le_refl _) (by omega)) z⟩
      · intro Nb hb hr
        refine gX11_isSaid_2 (d := d + 1) ?_
        rw [← hb.1.2.2.2.1, nI_1, show nI x + 2 = nI (x + 2) from nI_add x 2, nI_add, nI_clamp (by omega), nI_clamp (n := x + 2 + i) (by omega), nI_clamp (n := i) (by omega), x1]
        refine ⟨vp_in_nI (by omega) (by omega), fun z => absurd z (nI_ge hi (by omega)), fun _ => ⟨vp_in_nI (by omega) (by omega), vp_in_nI (by omega) (by omega), fun Nc ec => ?_⟩⟩
        rw [nI_1]
        refine ih Nc (hb.tr (me_pe (fun k hk => by rw [ec, wr_cell (by omega)]))) (fun j hj => ?_)
        rw [ec]
        by_cases z : j = i
        · rw [z, wr_same]
        · rw [wr_ne (by omega)]; exact hr j (by omega)
    exact lp 0 (by omega) Na hp (fun j hj => absurd hj (by omega))
  by_cases hS : S = 8
  · refine ⟨-1, rfs N 3 1, Or.inl rfl, ⟨_, RX_up (by omega) (RX_rfs (r := 1) (by omega) h0)⟩, ⟨by rw [rfs_cell (by omega)], rfs_cell (by omega)⟩, fun d Na hp => ?_, fun d B M hB h k st hk hk2 hst hl => ?_⟩
    · refine Cl_of rfl (Nat.le_of_ble_eq_true rfl) rfl (lay d Na _ hp (fun Nb hb hr => ⟨_, sayM (d := d) (S := S) (RX_pe hb h0) S8 (by rw [← hb.1.1]; exact nS) hn1 hn, fun zr N3 q3 => ?_⟩))
      rcases q3 with ⟨q, -⟩ | ⟨-, ⟨-, e1, e2⟩ | ⟨q, -⟩⟩
      · exact absurd (fun i hi => by rw [hr i hi]; exact xin i hi) q
      · rw [e1, e2]
        refine gX11_isSaid_48 ⟨fun _ => ⟨rfl, pe_rfs hb⟩, fun z => absurd (by decide) z⟩
      · omega
    · refine Cl_of rfl (Nat.le_of_ble_eq_true rfl) rfl (gX10_addSentence_0 (d := d + 1) hk ⟨fun z => ?_, fun _ => ⟨v13, fun M2 e2 => ⟨rfl, ?_⟩⟩⟩)
      · rw [mSM h, hS] at z; exact absurd z (by decide)
      · rw [e2, c1]; exact RX_up (by omega) (RX_rfs (by omega) h)
  · have hS : S < 8 := by omega
    refine ⟨nI S, rowM N 1 (snA (N.1 1) S n (fun i => N.1 4 (x + 2 + i))), Or.inr (nI_pos (by omega)), ?_, ⟨by rw [rowM_s]; unfold snA; rw [upd_ne (by omega), slA_n (by omega)], rowM_n (by omega)⟩, fun d Na hp => ?_, fun d B M hB h k st hk hk2 hst hl => ?_⟩
    · obtain ⟨M2, o⟩ := ts_ex M0 (L := n) (fun i => N.1 4 (x + 2 + i)) hS
      exact ⟨M2, RX_up (by omega) (RXe_sn2 h0 mS hS hn1 hn xl o (ms_sn hS hn) (fun k k1 k2 => rowM_n k2))⟩
    · refine Cl_of rfl (Nat.le_of_ble_eq_true rfl) rfl (lay d Na _ hp (fun Nb hb hr => ⟨fun r N2 => r = some (.int (nI S)) ∧ pe (rowM N 1 (snA (N.1 1) S n (fun i => N.1 4 (x + 2 + i)))) N2, Cl_of rfl (Nat.le_of_ble_eq_true rfl) rfl (gX11_sentenceOf_0 ?_), fun zr N3 q3 => ?_⟩))
      · have n1 : Nb.1 1 = N.1 1 := hb.1.1.symm
        have l2 : ∀ i, i ≤ n → Ev LM (d + 1) mX11_sentenceOf 74 [some (.ref 0), some (.int (nI n)), some (.int (nI (351 + 6 * S))), some (.int (nI i))] [] (rowM Nb 1 (slA (N.1 1) S n (fun i => N.1 4 (x + 2 + i)) i)) (fun r N2 => r = some (.int (nI S)) ∧ pe (rowM N 1 (snA (N.1 1) S n (fun i => N.1 4 (x + 2 + i)))) N2) := by
          refine dn ?_ (fun i hi ih => ?_)
          · refine gX11_sentenceOf_74 ⟨fun _ N3 e3 => ?_, fun z => absurd (nI_le (Nat.le_refl _) (by omega)) z⟩
            rw [rowM_w, rowM_s, slA_n (by omega), nS, nI_1] at e3
            rw [e3, rowM_s, upd_eq]
            exact ⟨by rw [nI_pred], pe_row hb (by rw [rowM_s]; rfl) (fun k k1 _ => rowM_n k1)⟩
          · refine gX11_sentenceOf_74 ⟨fun z => absurd z (nI_ge hi (by omega)), fun _ => ⟨vp_in_nI (by omega) (by omega), ?_⟩⟩
            rw [nI_1, nI_add, nI_clamp (by omega), nI_clamp (by omega), rowM_n (c := 1) (k := 10) (by omega), hr i hi]
            refine ⟨vp_in_nI (by omega) (by omega), fun N3 e3 => ?_⟩
            rw [rowM_w, slA_s rfl] at e3
            rw [nI_1, e3]; exact ih
        have l1 : ∀ i, i ≤ n → Ev LM (d + 1) mX11_sentenceOf 2 [some (.ref 0), some (.int (nI n)), some (.int (nI i)), none] [] Nb (fun r N2 => r = some (.int (nI S)) ∧ pe (rowM N 1 (snA (N.1 1) S n (fun i => N.1 4 (x + 2 + i)))) N2) := by
          refine dn ?_ (fun i hi ih => ?_)
          · refine gX11_sentenceOf_2 ⟨fun _ => ⟨fun _ => ?_, fun z => ?_⟩, fun z => absurd (nI_le (Nat.le_refl _) (by omega)) z⟩
            · rw [n1, nS, s351 hS, nI_clamp (by omega)]
              refine ⟨vp_in_nI (by omega) (by omega), fun N3 e3 => ?_⟩
              rw [wr_rM, n1, slA_0 (g := fun i => N.1 4 (x + 2 + i))] at e3
              rw [e3]
              exact l2 0 (by omega)
            · rw [n1, nS] at z
              exact absurd ((nI_eq (b := 8) (by omega) (by omega)).mp z) (by omega)
          · refine gX11_sentenceOf_2 ⟨fun z => absurd z (nI_ge hi (by omega)), fun _ => ⟨vp_in_nI (by omega) (by omega), ?_⟩⟩
            rw [nI_clamp (by omega), hr i hi]
            exact ⟨fun _ => by rw [nI_1]; exact ih, fun z => bb z (xin i hi)⟩
        exact l1 0 (by omega)
      · rw [q3.1]
        refine gX11_isSaid_48 ⟨fun z => absurd z (nI_pos (by omega)), fun z => ⟨by rw [if_neg z], q3.2⟩⟩
    · refine Cl_of rfl (Nat.le_of_ble_eq_true rfl) rfl (gX10_addSentence_0 (d := d + 1) hk ⟨fun _ => ⟨_, kX0_tellSentence (d := d + 1) (fr := st + 1) hk (mSM h) hS hn (by omega) (by omega) (by omega), fun zr M3 q3 => ?_⟩, fun z => absurd (by rw [mSM h]; exact nI_lt (b := 8) hS (by omega)) z⟩)
      rw [q3.1]
      obtain ⟨t1, t2, t3, t4, t5, t6⟩ := q3.2
      exact gX10_addSentence_28 hk ⟨rfl, RX_up (B := B) (by omega) (RXe_sn2 h (mSM h) hS hn1 hn xl ⟨t1, t2, t3, t4, t5, fun i hi => by rw [t6 i hi]; exact hl i hi⟩ (ms_sn hS hn) (fun k k1 k2 => rowM_n k2))⟩
end
