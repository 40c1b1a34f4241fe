/-! the relation's parts stay where nothing that they read has changed -/
theorem wRel_cg {M M2 : ev_Mem} {a a2 : Nat → Int32} {w : Nat} (hw : w < 24) (hM : ∀ k, 5 ≤ k → k < 33 → M.1 k = M2.1 k) (ha : ∀ i, 39 + 13 * w ≤ i → i < 39 + 13 * w + 13 → a i = a2 i) (h : wRel M a w) : wRel M2 a2 w := by
  obtain ⟨⟨h1, h2, h3, h4⟩, ⟨h5, h6, h7⟩, n, h8, h9, h10, h11⟩ := h
  rw [hM 29 (by omega) (by omega)] at h1
  rw [hM 30 (by omega) (by omega)] at h2
  rw [hM 31 (by omega) (by omega)] at h3
  rw [hM 32 (by omega) (by omega)] at h4
  rw [ha _ (by omega) (by omega)] at h1 h2 h3 h4 h5 h6 h7 h10
  refine ⟨⟨h1, h2, h3, h4⟩, ⟨h5, h6, h7⟩, n, h8, h9, h10, fun i hi => ?_⟩
  have := h11 i hi
  rw [hM (5 + w) (by omega) (by omega), ha (39 + 13 * w + 4 + i) (by omega) (by omega)] at this
  exact this
theorem sRel_cg {M M2 : ev_Mem} {a a2 : Nat → Int32} {s : Nat} (hs : s < 8) (hM : ∀ k, 34 ≤ k → k < 43 → M.1 k = M2.1 k) (ha : ∀ i, 351 + 6 * s ≤ i → i < 351 + 6 * s + 6 → a i = a2 i) (h : sRel M a s) : sRel M2 a2 s := by
  obtain ⟨h1, n, h8, h9, h10, h11⟩ := h
  rw [hM 42 (by omega) (by omega), ha _ (by omega) (by omega)] at h1
  rw [ha _ (by omega) (by omega)] at h10
  refine ⟨h1, n, h8, h9, h10, fun i hi => ?_⟩
  have := h11 i hi
  rw [hM (34 + s) (by omega) (by omega), ha (351 + 6 * s + 1 + i) (by omega) (by omega)] at this
  exact this
theorem bRel_cg {R R2 : Nat → Int32} {lc wn : Nat} {g g2 : Nat → Int32} (hR : R = R2) (hg : ∀ i, i < 60 → g i = g2 i) (h : bRel R lc wn g) : bRel R2 lc wn g2 := by
  subst hR
  obtain ⟨h1, h2⟩ := h
  refine ⟨h1, fun i hi => ?_⟩
  have := h2 i hi
  rw [hg (2 * i) (by omega), hg (2 * i + 1) (by omega)] at this
  exact this
theorem kRel_cg {u : Nat → Int32} {lo se da x : Int32} {b b2 : Nat → Int32} (hb : ∀ i, i < 31 → b i = b2 i) (h : kRel u lo se da x b) : kRel u lo se da x b2 := by
  obtain ⟨h1, h2, h3, h4, h5⟩ := h
  rw [hb _ (by omega)] at h2 h3 h4 h5
  refine ⟨fun l hl => ?_, h2, h3, h4, h5⟩
  have := h1 l hl
  rw [hb (5 + l) (by omega)] at this
  exact this
theorem mRel_cg {B : Nat} {M M2 : ev_Mem} {mc : Nat} {a a2 : Nat → Int32} (hM : ∀ k, mc ≤ k → k < mc + 4 → M.1 k = M2.1 k) (ha4 : a 4 = a2 4) (ha : ∀ i, 8 ≤ i → i < 39 → a i = a2 i) (hb : ∀ i, 525 ≤ i → i < 3315 → a i = a2 i) (h : mRel B M mc a) : mRel B M2 mc a2 := by
  obtain ⟨h0, lc, wn, k, e, h1, h2, h3, h4, ⟨h5, h6, h7⟩, ⟨h8, h9⟩, lcs, h10, h11, h12⟩ := h
  rw [hM mc (by omega) (by omega)] at h0 h2 h6 h9
  rw [hM (mc + 1) (by omega) (by omega)] at h0
  rw [ha 12 (by omega) (by omega)] at h3
  rw [ha4] at h7
  refine ⟨kRel_cg (fun i hi => ha (8 + i) (by omega) (by omega)) h0, lc, wn, k, e, h1, h2, h3, bRel_cg (hM (mc + 2) (by omega) (by omega)) (fun i hi => hb _ (by omega) (by omega)) h4, ⟨h5, h6, h7⟩, ⟨h8, h9⟩, lcs, h10, h11, fun j hj => ?_⟩
  obtain ⟨q1, q2, wj, q3, q4⟩ := h12 j hj
  rw [hM (mc + 3) (by omega) (by omega)] at q1 q2
  rw [hb (525 + 91 * j + 4) (by omega) (by omega)] at q3
  exact ⟨kRel_cg (fun i hi => hb _ (by omega) (by omega)) q1, q2, wj, q3, bRel_cg (hM (mc + 2) (by omega) (by omega)) (fun i hi => hb _ (by omega) (by omega)) q4⟩
theorem nRel_cg {M M2 : ev_Mem} {nc W W2 : Nat} {a a2 : Nat → Int32} (hW : W ≤ W2) (hM : ∀ k, nc ≤ k → k < nc + 13 → M.1 k = M2.1 k) (h2 : a 2 = a2 2) (h3 : a 3 = a2 3) (h567 : ∀ i, 5 ≤ i → i < 8 → a i = a2 i) (ha : ∀ i, 399 ≤ i → i < 525 → a i = a2 i) (h : nRel M nc W a) : nRel M2 nc W2 a2 := by
  obtain ⟨k1, ⟨T, k2, k3, k4, k5, k6⟩, ⟨p, k7, k8, k9, k10⟩, ⟨r, k11, k12, k13, k14⟩, h, k15, k16, k17, k18⟩ := h
  rw [hM nc (by omega) (by omega)] at k3 k5 k8 k12 k16
  rw [h2] at k4
  rw [h3] at k5 k6
  rw [h567 _ (by omega) (by omega)] at k9 k13 k17
  refine ⟨fun l hl => ?_, ⟨T, k2, k3, k4, k5, k6⟩, ⟨p, k7, k8, k9, fun i hi => ?_⟩, ⟨r, k11, k12, k13, fun i hi => ?_⟩, h, k15, k16, k17, fun i hi => ?_⟩
  · have := k1 l hl
    rw [hM (nc + 1) (by omega) (by omega), hM (nc + 2) (by omega) (by omega), ha (399 + 2 * l) (by omega) (by omega), ha (399 + 2 * l + 1) (by omega) (by omega)] at this
    exact this
  · obtain ⟨q1, w, q2, q3⟩ := k10 i hi
    rw [hM (nc + 3) (by omega) (by omega), ha _ (by omega) (by omega)] at q1
    rw [ha _ (by omega) (by omega)] at q3
    exact ⟨q1, w, by omega, q3⟩
  · obtain ⟨q1, n, q2, q3, q4, q5⟩ := k14 i hi
    rw [hM (nc + 10) (by omega) (by omega), ha _ (by omega) (by omega)] at q1
    rw [ha _ (by omega) (by omega)] at q4
    refine ⟨q1, n, q2, q3, q4, fun j hj => ?_⟩
    have := q5 j hj
    rw [hM (nc + 5 + i) (by omega) (by omega), ha _ (by omega) (by omega)] at this
    exact this
  · obtain ⟨q1, q2, ⟨w, q3, q4⟩, q5⟩ := k18 i hi
    rw [hM (nc + 11) (by omega) (by omega), ha _ (by omega) (by omega)] at q1
    rw [hM (nc + 12) (by omega) (by omega), ha _ (by omega) (by omega)] at q2
    rw [ha _ (by omega) (by omega)] at q4 q5
    exact ⟨q1, q2, ⟨w, by omega, q4⟩, q5⟩
theorem stRel_xe {B : Nat} {M M2 : ev_Mem} {W S mc nc : Nat} {a : Nat → Int32} (hd : ∀ k, k < 43 → M.1 k = M2.1 k) (hm : ∀ k, mc ≤ k → k < mc + 4 → M.1 k = M2.1 k) (hn : ∀ k, nc ≤ k → k < nc + 13 → M.1 k = M2.1 k) (h : stRel B M W S mc nc a) : stRel B M2 W S mc nc a := by
  obtain ⟨⟨h1, h2, h3⟩, ⟨h4, h5, h6⟩, h7, h8⟩ := h
  exact ⟨⟨h1, h2, fun w hw => wRel_cg (by omega) (fun k _ _ => hd k (by omega)) (fun _ _ _ => rfl) (h3 w hw)⟩, ⟨h4, h5, fun s hs => sRel_cg (by omega) (fun k _ _ => hd k (by omega)) (fun _ _ _ => rfl) (h6 s hs)⟩, mRel_cg hm rfl (fun _ _ _ => rfl) (fun _ _ _ => rfl) h7, nRel_cg (Nat.le_refl _) hn rfl rfl (fun _ _ _ => rfl) (fun _ _ _ => rfl) h8⟩
theorem mRel_up {B B2 : Nat} {M : ev_Mem} {mc : Nat} {a : Nat → Int32} (hB : B ≤ B2) (h : mRel B M mc a) : mRel B2 M mc a := by
  obtain ⟨h0, lc, wn, k, e, h1, h2⟩ := h
  exact ⟨h0, lc, wn, k, e, Nat.le_trans h1 hB, h2⟩
theorem stRel_up {B B2 : Nat} {M : ev_Mem} {W S mc nc : Nat} {a : Nat → Int32} (hB : B ≤ B2) (h : stRel B M W S mc nc a) : stRel B2 M W S mc nc a := ⟨h.1, h.2.1, mRel_up hB h.2.2.1, h.2.2.2⟩
