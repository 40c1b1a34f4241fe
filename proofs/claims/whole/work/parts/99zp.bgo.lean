/-! THE MODEL'S READER: one -/
section
variable {d : Nat} {N0 N : ev_Mem} {t0 w0 k n s e : Nat} {P : List Nat} {K : List (Nat × Nat)}
theorem stl_len {r : Nat} : ∀ {P : List Nat} {K : List (Nat × Nat)}, (stl r P K).1.length + (stl r P K).2.length = P.length + K.length
  | [], K => rfl
  | p :: P, K => by
    rw [stl]
    split
    · rw [stl_len, List.length_append, List.length_singleton, List.length_cons]; omega
    · rfl
theorem st_19 {v : Int32} (h : mSt N0 N t0 w0 k n s P K e) : mSt N0 (ev_wr N 0 19 v) t0 w0 k n s P K e := by
  obtain ⟨h1, ⟨h2, h2'⟩, h3, h4, ⟨q1, q2, q3, q4, q5, q6, q7, q8, q9, q10⟩, h6, h7⟩ := h
  have f : ∀ j, j ≠ 19 → (ev_wr N 0 19 v).1 0 j = N.1 0 j := fun j hj => wr_ne (by omega)
  have hg := h1.tr (gfr_w (t0 := t0) (w0 := w0) (j := 19) (v := v) (by omega))
  refine ⟨hg, ⟨h2, g_tp hg h2⟩, mkS_f h3 (fun j a b => f j (by omega)) rfl, h4, ⟨(f 17 (by omega)).trans q1, by rw [wr_cell (by omega)]; exact q2, q3, (f 18 (by omega)).trans q4, q5, (f 13 (by omega)).trans q6, (f 14 (by omega)).trans q7, by rw [wr_cell (by omega)]; exact q8, q9, q10⟩, (f 15 (by omega)).trans h6, h7⟩
theorem st_s {r : Nat} {N2 : ev_Mem} (h : mSt N0 N t0 w0 k n s P K e) (hf : sfP t0 w0 N N2) (hm : mPK N2 t0 w0 (stl r P K).1 (stl r P K).2) : mSt N0 N2 t0 w0 k n s (stl r P K).1 (stl r P K).2 e := by
  obtain ⟨h1, ⟨h2, h2'⟩, h3, h4, h5, h6, h7⟩ := h
  have hg := h1.tr (gfr_s hf)
  have := stl_len (r := r) (P := P) (K := K)
  exact ⟨hg, ⟨h2, g_tp hg h2⟩, mkS_f h3 (fun j a b => hf.2.1 j (by omega) (by omega) (by omega)) hf.2.2.2, h4, hm, (hf.2.1 15 (by omega) (by omega) (by omega)).trans h6, by omega⟩
theorem st_e {o v : Nat} (h : mSt N0 N t0 w0 k n s P K 0) (hs : s < n) : Cl LM d mX11_emit [.ref 0, .int (nI o), .int (nI v)] N (fun r N2 => r = none ∧ mSt N0 N2 t0 w0 k n s P (K ++ [(o, v)]) 1 ∧ N2.1 0 19 = N.1 0 19) := by
  obtain ⟨h1, ⟨h2, h2'⟩, h3, h4, h5, h6, h7⟩ := h
  have n3 := h2.1
  obtain ⟨c1, c2⟩ := em_c (o := o) (v := v) h5 (by omega)
  refine (kX11_emit h5.2.2.2.2.2.1 h5.2.2.2.2.2.2.1 (by omega) h5.2.2.2.2.2.2.2.2.2).mono (fun r N2 hh => ?_)
  obtain ⟨rfl, rfl⟩ := hh
  have hg := h1.tr (gfr_s c1)
  exact ⟨rfl, ⟨hg, ⟨h2, g_tp hg h2⟩, mkS_f h3 (fun j a b => c1.2.1 j (by omega) (by omega) (by omega)) c1.2.2.2, h4, c2, (c1.2.1 15 (by omega) (by omega) (by omega)).trans h6, by rw [List.length_append, List.length_singleton]; omega⟩, c1.2.1 19 (by omega) (by omega) (by omega)⟩
theorem at84 (h : mSt N0 N t0 w0 k n s P K 1) (hs : s < n) : Ev LM (d + 3) mX11_beginOne 84 [some (.ref 0), none] [] N (mRes N0 t0 w0 k n (Sum.inl (nxs (byN N0) n s, (stl 7 P K).1, true, (stl 7 P K).2))) := by
  refine gX11_beginOne_84 ⟨_, nx_c h hs (by omega), fun zr N1 hz => ?_⟩
  obtain ⟨rfl, h1, h2, h3⟩ := hz
  refine gX11_beginOne_88 fun N2 e2 => ?_
  have h4 : mSt N0 N2 t0 w0 k n (nxs (byN N0) n s) P K 0 := by rw [e2]; exact st_19 h1
  refine ⟨_, kX11_settle (r := 7) (by omega) (by omega) h4.2.2.2.2.1, fun zr N3 hz => ?_⟩
  obtain ⟨rfl, s1, s2⟩ := hz
  refine gX11_beginOne_99 (Or.inl ⟨_, _, _, _, rfl, rfl, st_s h4 s1 s2, ?_⟩)
  rw [s1.2.1 19 (by omega) (by omega) (by omega), e2, wr_same]
  rfl
theorem tkE : ∀ c, c < 256 → ((nI (tkN c) = 1 ↔ c = 2) ∧ (nI (tkN c) = 40 ↔ c = 40) ∧ (nI (tkN c) = 45 ↔ c = 45)) ∧ ((nI (tkN c) = 43 ↔ c = 43) ∧ (nI (tkN c) = 42 ↔ c = 42) ∧ (nI (tkN c) = 47 ↔ c = 47)) ∧ (nI (tkN c) = 41 ↔ c = 41) := by decide +kernel
theorem cpE : ∀ c, c < 256 → cpI (nI (tkN c)) = (if cmN c = 0 then -1 else nI (cmN c)) := by decide +kernel
theorem wv_i (hb : ∀ i, i < n → byN N0 i < 256) (hk : mkS N (byN N0) n s) : (isw N (w4f 117 115 101 115) = tkW (byN N0) n s (wdI 1) ∧ isw N (w2f 105 102) = tkW (byN N0) n s (wdI 2) ∧ isw N (w3f 110 111 116) = tkW (byN N0) n s (wdI 3)) ∧ (isw N (w3f 97 110 100) = tkW (byN N0) n s (wdI 4) ∧ isw N (w2f 111 114) = tkW (byN N0) n s (wdI 5)) ∧ (isw N (w4f 116 104 101 110) = tkW (byN N0) n s (wdI 6) ∧ isw N (w4f 101 108 115 101) = tkW (byN N0) n s (wdI 7) ∧ isw N (w3f 101 110 100) = tkW (byN N0) n s (wdI 8)) := by
  refine ⟨⟨?_, ?_, ?_⟩, ⟨?_, ?_⟩, ?_, ?_, ?_⟩
  · rw [wv_uses.1]; exact isw_e hb hk wv_uses.2
  · rw [wv_if.1]; exact isw_e hb hk wv_if.2
  · rw [wv_not.1]; exact isw_e hb hk wv_not.2
  · rw [wv_and.1]; exact isw_e hb hk wv_and.2
  · rw [wv_or.1]; exact isw_e hb hk wv_or.2
  · rw [wv_then.1]; exact isw_e hb hk wv_then.2
  · rw [wv_else.1]; exact isw_e hb hk wv_else.2
  · rw [wv_end.1]; exact isw_e hb hk wv_end.2
theorem kX11_beginOne (h : mSt N0 N t0 w0 k n s P K 0) (hw : N.1 0 19 = bi false) : Cl LM (d + 7) mX11_beginOne [.ref 0] N (mRes N0 t0 w0 k n (stB (byN N0) n k s P K)) := by
  have bb := mk_b h
  have ht := h.2.1.2
  have hk' := h.2.2.1
  have hs := h.2.2.2.1
  have hP := h.2.2.2.2.1
  have h15 := h.2.2.2.2.2.1
  have pk := pk_ok hP
  have e10 := hk'.2.2.1
  obtain ⟨⟨t1, t40, t45⟩, -⟩ := tkE _ bb.2.2.1
  obtain ⟨⟨i1, i2, i3⟩, -⟩ := wv_i bb.1 hk'
  have nmr : ∀ (z : ∀ M' r, r = some (.int (nmN (byN N0) n s)) → M' = N → Ev LM (d + 7) mX11_beginOne 24 [some (.ref 0), none] (r.toList ++ []) M' (mRes N0 t0 w0 k n (stB (byN N0) n k s P K))), ∃ Q2 : Option Value → ev_Mem → Prop, Cl LM (d + 6) mX11_nameOf [.ref 0] N Q2 ∧ ∀ (zr : Option Value) (zM : ev_Mem), Q2 zr zM → Ev LM (d + 7) mX11_beginOne 24 [some (.ref 0), none] (zr.toList ++ []) zM (mRes N0 t0 w0 k n (stB (byN N0) n k s P K)) := by
    intro z
    refine ⟨_, kX11_nameOf ht bb.2.2.2 hs, fun zr zM hz => ?_⟩
    obtain ⟨h1, h2⟩ := hz
    rw [g_by h.1] at h1
    exact z zM zr h1 h2
  refine Cl_of rfl (Nat.le_of_ble_eq_true rfl) rfl (gX11_beginOne_0 ?_)
  rw [e10, t1]
  refine ⟨fun n2 => nmr (fun M' r er eM => ?_), fun e2 => ⟨fun z => nmr (fun M' r er eM => ?_), fun z => ?_⟩⟩
  · subst er eM
    rcases nm_c (byN N0) n s with en | ⟨i, hi, en⟩
    · rw [en]
      refine gX11_beginOne_24 ⟨fun _ => ?_, fun z => absurd m1_lt0 z⟩
      refine gX11_beginOne_39 ⟨fun z => absurd ((t1.mp (e10 ▸ z))) n2, fun _ => ⟨fun _ => ?_, fun z => absurd m1_lt0 z⟩⟩
      refine gX11_beginOne_101 ?_
      rw [e10, t40, t45, i1, i2, i3]
      have sB : stB (byN N0) n k s P K = (if srt (byN N0) n s = 40 then opq (byN N0) n s P K 40 else if srt (byN N0) n s = 45 then opq (byN N0) n s P K 4 else if tkW (byN N0) n s (wdI 1) = true then opq (byN N0) n s P K 2 else if tkW (byN N0) n s (wdI 2) = true then opq (byN N0) n s P K 41 else if (tkW (byN N0) n s (wdI 3) && iaP P) = true then opq (byN N0) n s P K 20 else Sum.inr (flt 1 s)) := by
        unfold stB
        rw [if_neg n2, en, if_neg nm_m1]
      rw [sB]
      have no1 : mRes N0 t0 w0 k n (Sum.inr (flt 1 s)) (some (.int 1)) M' := Or.inr ⟨1, s, rfl, by omega, by omega, rfl, h.1, hk'.1⟩
      have opn : ∀ c, ctd c = true → 2 ≤ c ∧ c < 50 → s < n → Cl LM (d + 6) mX11_opened [.ref 0, .int (nI c)] M' (mRes N0 t0 w0 k n (opq (byN N0) n s P K c)) := fun c c1 c2 c3 => kX11_opened h c3 c1 c2 hw
      have wn : ∀ {l : List Nat}, tkW (byN N0) n s l = true → s < n := fun q => srt_end (b := byN N0) (by rw [tkW_s q]; decide)
      refine ⟨fun n40 => ⟨fun n45 => ⟨fun f1 => ⟨fun f2 => ⟨fun f3 => ?_, fun f3 => ⟨pk.1, fun f4 => ?_, fun f4 => ⟨_, opn 20 rfl (by omega) (wn f3), fun zr zM hz => ?_⟩⟩⟩, fun f2 => ⟨_, opn 41 rfl (by omega) (wn f2), fun zr zM hz => ?_⟩⟩, fun f1 => ⟨_, opn 2 rfl (by omega) (wn f1), fun zr zM hz => ?_⟩⟩, fun e45 => ⟨_, opn 4 rfl (by omega) (srt_end (b := byN N0) (n := n) (s := s) (by omega)), fun zr zM hz => ?_⟩⟩, fun e40 => ⟨_, opn 40 rfl (by omega) (srt_end (b := byN N0) (n := n) (s := s) (by omega)), fun zr zM hz => ?_⟩⟩
      · rw [if_neg n40, if_neg n45, f1, if_neg (by decide), f2, if_neg (by decide), f3, Bool.false_and, if_neg (by decide)]
        exact no1
      · rw [pk.2.2.2.2] at f4
        rw [if_neg n40, if_neg n45, f1, if_neg (by decide), f2, if_neg (by decide), f4, Bool.and_false, if_neg (by decide)]
        exact no1
      · rw [pk.2.2.2.2] at f4
        rw [if_neg n40, if_neg n45, f1, if_neg (by decide), f2, if_neg (by decide), f3, f4, if_pos (by decide)]
        obtain ⟨v, rfl⟩ : ∃ v, zr = some (.int v) := by rcases hz with ⟨_, _, _, _, _, q, _⟩ | ⟨_, _, _, _, _, q, _⟩ <;> exact ⟨_, q⟩
        exact gX11_beginOne_206 hz
      · rw [if_neg n40, if_neg n45, f1, if_neg (by decide), f2, if_pos rfl]
        obtain ⟨v, rfl⟩ : ∃ v, zr = some (.int v) := by rcases hz with ⟨_, _, _, _, _, q, _⟩ | ⟨_, _, _, _, _, q, _⟩ <;> exact ⟨_, q⟩
        exact gX11_beginOne_176 hz
      · rw [if_neg n40, if_neg n45, f1, if_pos rfl]
        obtain ⟨v, rfl⟩ : ∃ v, zr = some (.int v) := by rcases hz with ⟨_, _, _, _, _, q, _⟩ | ⟨_, _, _, _, _, q, _⟩ <;> exact ⟨_, q⟩
        exact gX11_beginOne_155 hz
      · rw [if_neg n40, if_pos e45]
        obtain ⟨v, rfl⟩ : ∃ v, zr = some (.int v) := by rcases hz with ⟨_, _, _, _, _, q, _⟩ | ⟨_, _, _, _, _, q, _⟩ <;> exact ⟨_, q⟩
        exact gX11_beginOne_131 hz
      · rw [if_pos e40]
        obtain ⟨v, rfl⟩ : ∃ v, zr = some (.int v) := by rcases hz with ⟨_, _, _, _, _, q, _⟩ | ⟨_, _, _, _, _, q, _⟩ <;> exact ⟨_, q⟩
        exact gX11_beginOne_116 hz
    · have hsn := srt_end (b := byN N0) (n := n) (s := s) (fun q => by
        have := nm_no (b := byN N0) (n := n) (s := s) (by omega)
        rw [en] at this
        exact (nI_pos (n := i) (by omega)) (by rw [this]; decide))
      rw [en]
      refine gX11_beginOne_24 ⟨fun z => absurd z (nI_pos (by omega)), fun _ => ?_⟩
      rw [h15]
      refine ⟨fun z => ?_, fun z => Or.inr ⟨5, s, ?_, by omega, by omega, rfl, h.1, hk'.1⟩⟩
      · refine gX11_beginOne_39 ⟨fun z => absurd ((t1.mp (e10 ▸ z))) n2, fun _ => ⟨fun q => absurd q (nI_pos (by omega)), fun _ => ?_⟩⟩
        refine gX11_beginOne_51 ?_
        rw [e10, t1]
        refine ⟨fun _ => ⟨fun _ => ⟨_, st_e (o := 1) (v := i) h hsn, fun zr zM hz => ?_⟩, fun q => absurd q n2⟩, fun q => absurd q n2⟩
        obtain ⟨rfl, m1, m2⟩ := hz
        have := at84 (d := d + 4) m1 hsn
        have sB : stB (byN N0) n k s P K = Sum.inl (nxs (byN N0) n s, (stl 7 P (K ++ [(1, i)])).1, true, (stl 7 P (K ++ [(1, i)])).2) := by
          unfold stB emq
          rw [if_neg n2, en, if_pos (nI_0le (by omega)), if_pos z, nI_clamp (by omega)]
        rw [sB]
        exact this
      · unfold stB
        rw [if_neg n2, en, if_pos (nI_0le (by omega)), if_neg (by rw [z]; decide)]
  · subst er eM
    have hsn := srt_end (b := byN N0) (n := n) (s := s) (by omega)
    have nu := hk'.2.2.2.1 e2
    have da := dig_all bb.1 e2
    have nl := nuK_le (b := byN N0) (s := s) (nxt (byN N0) n s - s) (fun i hi => (da i hi).2)
    rw [nu] at z
    have z2 : nuN (byN N0) n s ≤ 9999 := by
      unfold nuN
      rcases Nat.lt_or_ge 9999 (nuK (byN N0) s (nxt (byN N0) n s - s)) with q | q
      · exact absurd z (nI_ge (a := 9999) q (by omega))
      · exact q
    rw [nm_no (b := byN N0) (n := n) (s := s) (by omega)]
    refine gX11_beginOne_24 ⟨fun _ => ?_, fun z => absurd m1_lt0 z⟩
    refine gX11_beginOne_39 ⟨fun _ => ?_, fun z => absurd (by rw [e10]; exact t1.mpr e2) z⟩
    refine gX11_beginOne_51 ?_
    rw [e10, t1, nu]
    refine ⟨fun q => absurd e2 q, fun _ => ⟨fun q => absurd e2 q, fun _ => ⟨_, st_e (o := 0) (v := nuN (byN N0) n s) h hsn, fun zr zM hz => ?_⟩⟩⟩
    obtain ⟨rfl, m1, m2⟩ := hz
    have := at84 (d := d + 4) m1 hsn
    have sB : stB (byN N0) n k s P K = Sum.inl (nxs (byN N0) n s, (stl 7 P (K ++ [(0, nuN (byN N0) n s)])).1, true, (stl 7 P (K ++ [(0, nuN (byN N0) n s)])).2) := by
      unfold stB emq
      rw [if_pos e2, if_neg (by omega)]
    rw [sB]
    exact this
  · have nu := hk'.2.2.2.1 e2
    rw [nu] at z
    have z2 : 9999 < nuN (byN N0) n s := by
      unfold nuN
      rcases Nat.lt_or_ge 9999 (nuK (byN N0) s (nxt (byN N0) n s - s)) with q | q
      · exact q
      · exact absurd (nI_le (b := 9999) q (by omega)) z
    refine Or.inr ⟨2, s, ?_, by omega, by omega, rfl, h.1, hk'.1⟩
    unfold stB
    rw [if_pos e2, if_pos z2]
end
