/-! THE MODEL'S READER: what begins one -/
section
variable {d : Nat} {N0 N : ev_Mem}
theorem g40 : ∀ p, p < 50 → (40 ≤ nI p ↔ 40 ≤ p) := by decide +kernel
theorem oaF_p {r : Nat → Int32} : ∀ {P : List Nat}, plR r P → okQ P → (onP P = 0 ∧ oaF r P.length = -1) ∨ (40 ≤ onP P ∧ onP P < 50 ∧ ∃ i, i < P.length ∧ oaF r P.length = nI i ∧ r i = nI (onP P))
  | [], _, _ => Or.inl ⟨rfl, rfl⟩
  | p :: P, h, h2 => by
    rw [onP, List.length_cons, oaF, h.1]
    by_cases z : 40 ≤ p
    · rw [if_pos z, if_pos ((g40 p h2.1.2.1).mpr z)]
      exact Or.inr ⟨z, h2.1.2.1, P.length, by omega, rfl, h.1⟩
    · rw [if_neg z, if_neg (fun q => z ((g40 p h2.1.2.1).mp q))]
      rcases oaF_p h.2 h2.2 with q | ⟨q1, q2, i, q3, q4⟩
      · exact Or.inl q
      · exact Or.inr ⟨q1, q2, i, by omega, q4⟩
theorem icF_p {r : Nat → Int32} : ∀ {P : List Nat}, plR r P → okQ P → icF r P.length = icP P
  | [], _, _ => rfl
  | p :: P, h, h2 => by
    obtain ⟨k1, k2⟩ := rkI_n p h2.1.2.1
    rw [icP, List.length_cons, icF, h.1, k1, show (4 : Int32) = nI 4 from rfl]
    by_cases z : rkN p ≤ 4
    · rw [if_pos z, if_pos (nI_le (b := 4) z (by omega))]
      by_cases q : rkN p = 4
      · rw [q, decide_eq_true rfl]; rfl
      · rw [decide_eq_false (fun e => q ((nI_eq (b := 4) (by omega) (by omega)).mp e)), show (rkN p == 4) = false from beq_eq_false_iff_ne.mpr q]
    · rw [if_neg z, if_neg (nI_ge (a := 4) (b := rkN p) (by omega) (by omega))]
      exact icF_p h.2 h2.2
theorem pk_ok {t0 w0 : Nat} {P : List Nat} {K : List (Nat × Nat)} (h : mPK N t0 w0 P K) : plOK N ∧ P.length ≤ 71 ∧ opwI N = (if onP P = 0 then -1 else nI (onP P)) ∧ icI N = icP P ∧ iaI N = iaP P := by
  obtain ⟨h1, h2, h3, h4, h5, -⟩ := h
  have hl := okQ_len h3
  have eo : opwI N = (if onP P = 0 then -1 else nI (onP P)) := by
    unfold opwI oaI
    rw [h1, nI_clamp (by omega)]
    rcases oaF_p h2 h3 with ⟨q1, q2⟩ | ⟨q1, q2, i, q3, q4, q5⟩
    · rw [q1, q2, if_neg (by decide), if_pos rfl]
    · rw [q4, if_pos (nI_0le (by omega)), nI_clamp (by omega), q5, if_neg (by omega)]
  refine ⟨⟨P.length, by omega, h1⟩, by omega, eo, ?_, ?_⟩
  · unfold icI
    rw [h1, nI_clamp (by omega)]
    exact icF_p h2 h3
  · unfold iaI iaP
    rw [eo]
    have d41 : decide ((if onP P = 0 then -1 else nI (onP P)) = (41 : Int32)) = (onP P == 41) := by
      rcases oaF_p h2 h3 with ⟨q1, q2⟩ | ⟨q1, q2, -⟩
      · rw [q1]; rfl
      · rw [if_neg (by omega)]
        by_cases z : onP P = 41
        · rw [z]; rfl
        · rw [decide_eq_false (p := nI (onP P) = 41) (fun e => z ((nI_eq (b := 41) (by omega) (by omega)).mp e)), show (onP P == 41) = false from beq_eq_false_iff_ne.mpr z]
    rw [d41]
    cases P with
    | nil => rfl
    | cons p P =>
      have e1 : N.1 0 17 - 1 = nI P.length := by rw [h1, List.length_cons, nI_s1, nl_m1]
      have hl2 : P.length < 2 ^ 31 := by simp only [List.length_cons] at hl; omega
      rw [e1, nI_clamp hl2, h2.1]
      show ((onP (p :: P) == 41) && (decide (40 ≤ nI p) || iin (rkI (nI p)) 1 3)) = ((onP (p :: P) == 41) && (decide (40 ≤ p) || (decide (1 ≤ rkN p) && decide (rkN p ≤ 3))))
      have q : ∀ p, p < 50 → (decide (40 ≤ nI p) || iin (rkI (nI p)) 1 3) = (decide (40 ≤ p) || (decide (1 ≤ rkN p) && decide (rkN p ≤ 3))) := by decide +kernel
      rw [q p h3.1.2.1]
/-- what the reader of sums leaves as it was -/
def gfr (t0 w0 : Nat) (N N2 : ev_Mem) : Prop := (∀ i, i ≠ 0 → i ≠ 4 → i ≠ 6 → N2.1 i = N.1 i) ∧ (∀ j, j < 8 ∨ j = 12 ∨ j = 13 ∨ j = 15 ∨ j = 16 ∨ 19 < j → N2.1 0 j = N.1 0 j) ∧ (∀ j, j < t0 + 337 + 2 * w0 ∨ t0 + 945 ≤ j → N2.1 4 j = N.1 4 j)
theorem gfr.tr {t0 w0 : Nat} {N1 N2 : ev_Mem} (h : gfr t0 w0 N N1) (k : gfr t0 w0 N1 N2) : gfr t0 w0 N N2 := ⟨fun i a b c => (k.1 i a b c).trans (h.1 i a b c), fun j a => (k.2.1 j a).trans (h.2.1 j a), fun j a => (k.2.2 j a).trans (h.2.2 j a)⟩
theorem gfr_s {t0 w0 : Nat} {N2 : ev_Mem} (h : sfP t0 w0 N N2) : gfr t0 w0 N N2 := ⟨fun i a b _ => h.1 i a b, fun j a => h.2.1 j (by omega) (by omega) (by omega), h.2.2.1⟩
theorem gfr_n {t0 w0 : Nat} {N2 : ev_Mem} (h : nvO N N2) : gfr t0 w0 N N2 := ⟨fun i a _ _ => h.1 i a, fun j a => h.2 j (by omega), fun j _ => by rw [h.1 4 (by omega)]⟩
theorem gfr_w {t0 w0 j : Nat} {v : Int32} (h : 17 ≤ j ∧ j ≤ 19) : gfr t0 w0 N (ev_wr N 0 j v) := ⟨fun i a _ _ => wr_cell a, fun i a => wr_ne (by omega), fun i _ => by rw [wr_cell (by omega)]⟩
theorem gfr_p {t0 w0 j : Nat} {v : Int32} : gfr t0 w0 N (ev_wr N 6 j v) := ⟨fun i _ _ c => wr_cell c, fun i _ => by rw [wr_cell (by omega)], fun i _ => by rw [wr_cell (by omega)]⟩
theorem gfr.rf {t0 w0 : Nat} : gfr t0 w0 N N := ⟨fun _ _ _ _ => rfl, fun _ _ => rfl, fun _ _ => rfl⟩
/-- the machine's state in the model's memory; e: what the code may be ahead -/
def mSt (N0 N : ev_Mem) (t0 w0 k n s : Nat) (P : List Nat) (K : List (Nat × Nat)) (e : Nat) : Prop := gfr t0 w0 N0 N ∧ (tpN N0 n ∧ tpN N n) ∧ mkS N (byN N0) n s ∧ s ≤ n ∧ mPK N t0 w0 P K ∧ N.1 0 15 = nI k ∧ w0 + K.length + P.length ≤ s + e
theorem g_by {t0 w0 : Nat} (h : gfr t0 w0 N0 N) : byN N = byN N0 := funext fun i => by unfold byN; rw [h.1 5 (by omega) (by omega) (by omega)]
theorem g_tp {t0 w0 n : Nat} (h : gfr t0 w0 N0 N) (k : tpN N0 n) : tpN N n := ⟨k.1, by rw [h.2.1 5 (by omega)]; exact k.2.1, by rw [h.1 5 (by omega) (by omega) (by omega)]; exact k.2.2⟩
theorem mk_b {t0 w0 k n s e : Nat} {P : List Nat} {K : List (Nat × Nat)} (h : mSt N0 N t0 w0 k n s P K e) : (∀ i, i < n → byN N0 i < 256) ∧ n ≤ 300 ∧ srt (byN N0) n s < 256 ∧ mkS N (byN N) n s := by
  have hb : ∀ i, i < n → byN N0 i < 256 := fun i hi => (tn_b h.2.1.1 hi).2
  exact ⟨hb, h.2.1.1.1, srt_lt hb, by rw [g_by h.1]; exact h.2.2.1⟩
theorem nx_c {t0 w0 k n s e : Nat} {P : List Nat} {K : List (Nat × Nat)} (h : mSt N0 N t0 w0 k n s P K e) (hs : s < n) (he : e ≤ 1) : Cl LM (d + 1) mX11_nextToken [.ref 0] N (fun r N2 => r = none ∧ mSt N0 N2 t0 w0 k n (nxs (byN N0) n s) P K 0 ∧ N2.1 0 19 = N.1 0 19 ∧ s < nxs (byN N0) n s) := by
  have b := mk_b h
  obtain ⟨h1, ⟨h2, h2'⟩, h3, h4, h5, h6, h7⟩ := h
  have el := nxt_le (b := byN N0) (n := n) (s := s) h4
  have sk := skp_le (b := byN N0) (n := n) (p := nxt (byN N0) n s) el.2.1
  refine (kX11_nextToken h2' h3.2.1 el.2.1).mono (fun r N2 hh => ?_)
  obtain ⟨hr, ha, hm⟩ := hh
  have hg : gfr t0 w0 N0 N2 := h1.tr (gfr_n ha)
  have hlt : s < nxs (byN N0) n s := by unfold nxs; omega
  rw [g_by h1] at hm
  refine ⟨hr, ⟨hg, ⟨h2, g_tp hg h2⟩, hm, sk.2, ?_, (ha.2 15 (by omega)).trans h6, by omega⟩, ha.2 19 (by omega), hlt⟩
  obtain ⟨q1, q2, q3, q4, q5, q6, q7, q8, q9, q10⟩ := h5
  exact ⟨(ha.2 17 (by omega)).trans q1, by rw [ha.1 6 (by omega)]; exact q2, q3, (ha.2 18 (by omega)).trans q4, q5, (ha.2 13 (by omega)).trans q6, (ha.2 14 (by omega)).trans q7, by rw [ha.1 4 (by omega)]; exact q8, q9, q10⟩
/-- what a step answers -/
def mRes (N0 : ev_Mem) (t0 w0 k n : Nat) (x : TS ⊕ TR) (r : Option Value) (N2 : ev_Mem) : Prop := (∃ s P w K, x = Sum.inl (s, P, w, K) ∧ r = some (.int 0) ∧ mSt N0 N2 t0 w0 k n s P K 0 ∧ N2.1 0 19 = bi w) ∨ (∃ f s, x = Sum.inr (flt f s) ∧ 1 ≤ f ∧ f ≤ 8 ∧ r = some (.int (nI f)) ∧ gfr t0 w0 N0 N2 ∧ N2.1 0 9 = nI s)
theorem mkS_f {b : Nat → Nat} {n s : Nat} {N2 : ev_Mem} (h : mkS N b n s) (h1 : ∀ j, 8 ≤ j → j ≤ 11 → N2.1 0 j = N.1 0 j) (h2 : N2.2 = N.2) : mkS N2 b n s := ⟨(h1 9 (by omega) (by omega)).trans h.1, (h1 8 (by omega) (by omega)).trans h.2.1, (h1 10 (by omega) (by omega)).trans h.2.2.1, fun z => (h1 11 (by omega) (by omega)).trans (h.2.2.2.1 z), fun z => by rw [h2]; exact h.2.2.2.2 z⟩
theorem kX11_opened {t0 w0 k n s c : Nat} {P : List Nat} {K : List (Nat × Nat)} (h : mSt N0 N t0 w0 k n s P K 0) (hs : s < n) (hc : ctd c = true) (hc2 : 2 ≤ c ∧ c < 50) (hw : N.1 0 19 = bi false) : Cl LM (d + 2) mX11_opened [.ref 0, .int (nI c)] N (mRes N0 t0 w0 k n (opq (byN N0) n s P K c)) := by
  have b := mk_b h
  have hh := h
  obtain ⟨h1, ⟨h2, h2'⟩, h3, h4, h5, h6, h7⟩ := h
  have pk := pk_ok h5
  have h5' := h5
  obtain ⟨q1, q2, q3, q4, q5, q6, q7, q8, q9, q10⟩ := h5
  refine Cl_of rfl (Nat.le_of_ble_eq_true rfl) rfl (gX11_opened_0 ⟨fun z N1 e1 => ?_, fun z => ?_⟩)
  · rw [q4] at z e1
    have z8 : cnP P ≠ 8 := fun q => z (by rw [q]; rfl)
    have a17 : N1.1 0 17 = nI P.length := by rw [e1, wr_ne (by omega)]; exact q1
    rw [a17, nI_clamp (by omega)]
    refine ⟨vp_in_nI (by omega) (by omega), fun N2 e2 N3 e3 => ?_⟩
    have a17' : N2.1 0 17 = nI P.length := by rw [e2, wr_cell (by omega)]; exact a17
    rw [a17', nI_1] at e3
    rw [nI_1] at e1
    have f0 : ∀ j, j ≠ 17 → j ≠ 18 → N3.1 0 j = N.1 0 j := fun j x y => by rw [e3, wr_ne (by omega), e2, wr_cell (by omega), e1, wr_ne (by omega)]
    have f4 : N3.1 4 = N.1 4 := by rw [e3, wr_cell (by omega), e2, wr_cell (by omega), e1, wr_cell (by omega)]
    have hg : gfr t0 w0 N N3 := by rw [e3, e2, e1]; exact ((gfr_w (by omega)).tr gfr_p).tr (gfr_w (by omega))
    have l2 : N3.2 = N.2 := by rw [e3, e2, e1]; rfl
    have cc : cnP (c :: P) = cnP P + 1 := cn_c hc rfl
    have st : mSt N0 N3 t0 w0 k n s (c :: P) K 1 := by
      refine ⟨h1.tr hg, ⟨h2, g_tp (h1.tr hg) h2⟩, mkS_f h3 (fun j x y => f0 j (by omega) (by omega)) l2, h4, ⟨by rw [e3, wr_same]; rfl, ⟨?_, ?_⟩, ⟨⟨hc2.1, hc2.2, ?_⟩, q3⟩, ?_, by omega, (f0 13 (by omega) (by omega)).trans q6, (f0 14 (by omega) (by omega)).trans q7, by rw [f4]; exact q8, by simp only [List.length_cons]; omega, q10⟩, (f0 15 (by omega) (by omega)).trans h6, by simp only [List.length_cons]; omega⟩
      · rw [e3, wr_cell (by omega), e2, wr_same]
      · refine plR_cg (fun i hi => ?_) q2
        rw [e3, wr_cell (by omega), e2, wr_ne (by omega), e1, wr_cell (by omega)]
      · have := okQ_len q3
        omega
      · rw [e3, wr_ne (by omega), e2, wr_cell (by omega), e1, wr_same, cc]
    refine ⟨_, nx_c st hs (by omega), fun zr N4 hz => ?_⟩
    obtain ⟨rfl, s4, s5, s6⟩ := hz
    refine gX11_opened_45 (Or.inl ⟨_, c :: P, false, K, ?_, rfl, s4, ?_⟩)
    · unfold opq; rw [if_neg z8]
    · rw [s5, f0 19 (by omega) (by omega)]; exact hw
  · rw [q4] at z
    have z8 : cnP P = 8 := (nI_eq (b := 8) (by omega) (by omega)).mp z
    refine Or.inr ⟨3, s, ?_, by omega, by omega, rfl, h1, h3.1⟩
    unfold opq; rw [if_pos z8]
end
