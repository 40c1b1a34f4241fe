/-! CALLS: law, states -/
section
variable {d B : Nat} {M N : ev_Mem} {W T S s f : Nat} {lo : Int32}
def agv (N : ev_Mem) (t k : Nat) : Bool := decide (stN N (nI t) (N.1 1 (509 + 2 * k)).toNatClampNeg = N.1 1 (509 + 2 * k + 1))
def lwv2 (N : ev_Mem) (h : Nat) : Nat → Int32
  | 0 => 0
  | n + 1 => if al (agv N n) h = true then lwv2 N h n ||| bitI n else lwv2 N h n
theorem agrX {t hn : Nat} {Mi : ev_Mem} (h : sdR M N W T (M.1 43 0)) (ht : t < T) (h8 : hn ≤ 8) (hm : M.1 47 11 = nI hn) (hr : ∀ i, i < hn → M.1 58 i = N.1 1 (509 + 2 * i) ∧ M.1 59 i = N.1 1 (509 + 2 * i + 1) ∧ ∃ w, w < W ∧ N.1 1 (509 + 2 * i) = nI w) (hq : qfr M Mi) :
    Cl LX (d + 4) mX10_agreesWithHeard [.ref 0, .ref (61 + 5 * t)] Mi (fun r M2 => r = some (.int (bi (al (agv N t) hn))) ∧ qfr M M2) := by
  have hT := h.t4
  have hW := h.w24
  have hk : ev_isT (61 + 5 * t) := ⟨t, by omega, rfl⟩
  refine Cl_of rfl (Nat.le_of_ble_eq_true rfl) rfl (gX10_agreesWithHeard_0 hk ?_)
  have lp : ∀ i, i ≤ hn → ∀ M2, qfr M M2 → (∀ j, j < i → agv N t j = true) → Ev LX (d + 4) mX10_agreesWithHeard 2 [some (.ref 0), some (.ref (61 + 5 * t)), some (.int (nI i))] [] M2 (fun r M2 => r = some (.int (bi (al (agv N t) hn))) ∧ qfr M M2) := by
    refine dn ?_ (fun i hi ih => ?_)
    · intro M2 hq ha
      refine gX10_agreesWithHeard_2 (d := d + 3) hk ⟨fun _ => ⟨by rw [al_t.mpr ha]; rfl, hq⟩, fun z => absurd ?_ z⟩
      rw [hq.1 47 (by omega), hm]; exact nI_le (Nat.le_refl _) (by omega)
    · intro M2 hq ha
      have hc : ∀ k, k < 82 → M2.1 k = M.1 k := fun k hk => hq.1 k (by omega)
      have hs2 : sdR M2 N W T (M2.1 43 0) := by rw [hc 43 (by omega)]; exact sdR_cg hc h
      obtain ⟨r1, r2, w, hw, ew⟩ := hr i hi
      refine gX10_agreesWithHeard_2 (d := d + 3) hk ⟨fun z => ?_, fun _ => ⟨vp_in_nI (by omega) (by omega), ?_⟩⟩
      · rw [hq.1 47 (by omega), hm] at z; exact absurd z (nI_ge hi (by omega))
      · rw [nI_clamp (by omega), hq.1 58 (by omega), r1, ew, ← tv_t (by omega)]
        refine ⟨_, stiffByN (d := d) hs2 hw (Or.inr ⟨t, ht, rfl⟩), fun zr M3 q3 => ?_⟩
        rw [q3.1, tv_t (by omega)]
        have hq3 := hq.tr (qfr_l q3.2)
        have ea : agv N t i = decide (stN N (nI t) w = N.1 1 (509 + 2 * i + 1)) := by unfold agv; rw [ew, nI_clamp (by omega)]
        refine gX10_agreesWithHeard_27 hk ⟨vp_in_nI (by omega) (by omega), ?_⟩
        rw [nI_clamp (by omega), hq3.1 59 (by omega), r2]
        refine ⟨fun z => ?_, fun z => ⟨?_, hq3⟩⟩
        · rw [nI_1]
          refine ih M3 hq3 (fun j hj => ?_)
          by_cases e : j = i
          · rw [e, ea]; exact decide_eq_true z
          · exact ha j (by omega)
        · rw [al_f hi (by rw [ea]; exact decide_eq_false z)]; rfl
  exact lp 0 (by omega) Mi hq (fun j hj => absurd hj (by omega))
theorem op_law (h : RX B M N) : OP 200 mX10_law mX11_law [] B M N := by
  obtain ⟨W, S, T, Wk, Sk, Tk, h1, h2, h3, h4, h5, h6⟩ := id h
  obtain ⟨hsd, hS⟩ := RX_sd h1 h4
  have hT := hsd.t4
  have hW := hsd.w24
  obtain ⟨-, -, -, -, hn, h8, hm, hnn, hr⟩ := nRel_iff.mp h1.1.2.2.2
  refine op_ro (v := some (.int (lwv2 N hn T))) h ?_ ?_
  · refine Cl_of rfl (Nat.le_of_ble_eq_true rfl) rfl (gX10_law_0 ?_)
    have lp : ∀ i, i ≤ T → ∀ M2, qfr M M2 → Ev LX 200 mX10_law 4 [some (.ref 0), some (.int (lwv2 N hn i)), some (.int (nI i))] [] M2 (fun r M2 => r = some (.int (lwv2 N hn T)) ∧ xq M M2) := by
      refine dn ?_ (fun i hi ih => ?_)
      · intro M2 hq
        refine gX10_law_4 (d := 199) ⟨fun _ => ⟨rfl, xq_q hq⟩, fun z => absurd ?_ z⟩
        rw [hq.1 47 (by omega), hsd.mt]; exact nI_le (Nat.le_refl _) (by omega)
      · intro M2 hq
        rw [lwv2] at ih
        refine gX10_law_4 (d := 199) ⟨fun z => ?_, fun _ => ⟨fun z => absurd z (nI_ge (b := 4) (by omega) (by omega)), fun _ => ⟨vp_in_nI (by omega) (by omega), ?_⟩⟩⟩
        · rw [hq.1 47 (by omega), hsd.mt] at z; exact absurd z (nI_ge hi (by omega))
        · rw [nI_clamp (by omega)]
          refine ⟨_, agrX (d := 195) hsd hi h8 hm (fun i hi => ⟨(hr i hi).1, (hr i hi).2.1, (hr i hi).2.2.1⟩) hq, fun zr M3 q3 => ?_⟩
          rw [q3.1]
          refine gX10_law_30 ⟨fun z => ?_, fun z v1 e1 => ?_⟩
          · rw [if_neg (by rw [(bi_0 _).mp z]; decide)] at ih
            rw [nI_1]; exact ih M3 q3.2
          · rw [if_pos ((bi_n0 _).mp z)] at ih
            rw [nI_1, e1]; exact ih M3 q3.2
    exact lp 0 (by omega) M qfr.rf
  · refine Cl_of rfl (Nat.le_of_ble_eq_true rfl) rfl (gX11_law_0 ?_)
    have lp : ∀ i, i ≤ T → ∀ N2, me N N2 → Ev LM 200 mX11_law 4 [some (.ref 0), some (.int (lwv2 N hn i)), some (.int (nI i)), none, none] [] N2 (fun r N2 => r = some (.int (lwv2 N hn T)) ∧ pe N N2) := by
      refine dn ?_ (fun i hi ih => ?_)
      · intro N2 hq
        refine gX11_law_4 ⟨fun _ => ⟨rfl, me_pe hq⟩, fun z => absurd ?_ z⟩
        rw [hq 1 (by omega), hsd.nt]; exact nI_le (Nat.le_refl _) (by omega)
      · intro N2 hq
        rw [lwv2] at ih
        refine gX11_law_4 ⟨fun z => ?_, fun _ => ?_⟩
        · rw [hq 1 (by omega), hsd.nt] at z; exact absurd z (nI_ge hi (by omega))
        · have lq : ∀ k, k ≤ hn → ∀ N2, me N N2 → Ev LM 200 mX11_law 19 [some (.ref 0), some (.int (lwv2 N hn i)), some (.int (nI i)), some (.int (bi (al (agv N i) k))), some (.int (nI k))] [] N2 (fun r N2 => r = some (.int (lwv2 N hn T)) ∧ pe N N2) := by
            refine dn ?_ (fun k hk ih2 => ?_)
            · intro N2 hq
              refine gX11_law_19 (d := 195) ⟨fun _ => ⟨fun z => ?_, fun z v1 e1 => ?_⟩, fun z => absurd ?_ z⟩
              · rw [if_neg (by rw [(bi_0 _).mp z]; decide)] at ih
                rw [nI_1, or0]; exact ih N2 hq
              · rw [if_pos ((bi_n0 _).mp z)] at ih
                rw [nI_1, e1]; exact ih N2 hq
              · rw [hq 1 (by omega), hnn]; exact nI_le (Nat.le_refl _) (by omega)
            · intro N2 hq
              rw [al] at ih2
              have e509 : (509 : Int32) + 2 * nI k = nI (509 + 2 * k) := by rw [show (509 : Int32) = nI 509 from rfl, show (2 : Int32) = nI 2 from rfl, pk_mul, nI_add]
              obtain ⟨-, -, ⟨w, hw, ew⟩, -⟩ := hr k hk
              refine gX11_law_19 (d := 195) ⟨fun z => ?_, fun _ => ⟨fun z => ?_, fun z => ?_⟩⟩
              · rw [hq 1 (by omega), hnn] at z; exact absurd z (nI_ge hk (by omega))
              · rw [(bi_0 _).mp z, Bool.false_and] at ih2
                rw [nI_1]; exact ih2 N2 hq
              · rw [(bi_n0 _).mp z, Bool.true_and] at ih2
                have hs2 := sd_1 hsd (hq 1 (by omega)) (hq 4 (by omega))
                rw [e509, nI_1, nI_clamp (by omega), nI_clamp (by omega), hq 1 (by omega), ew, nI_clamp (by omega)]
                have ea : agv N i k = decide (stN N (nI i) w = N.1 1 (509 + 2 * k + 1)) := by unfold agv; rw [ew, nI_clamp (by omega)]
                rw [ea] at ih2
                refine ⟨vp_in_nI (by omega) (by omega), ⟨sd_gN hs2, Or.inr ⟨i, by omega, rfl, M, hs2.la i hi 0 (by omega)⟩, w, rfl, W, hs2.nw, hW, hw⟩, fun N3 q3 => ⟨vp_in_nI (by omega) (by omega), ?_⟩⟩
                have hq3 := hq.tr (me_n q3)
                rw [stN_1 (hq 1 (by omega)) (hq 4 (by omega)), hq3 1 (by omega)]
                refine ⟨fun y => ?_, fun y => ?_⟩
                · rw [decide_eq_false y] at ih2
                  rw [nI_1]; exact ih2 N3 hq3
                · rw [decide_eq_true y] at ih2
                  rw [nI_1]; exact ih2 N3 hq3
          exact lq 0 (by omega) N2 hq
    exact lp 0 (by omega) N me.rf
/-- what a place of a sentence costs up to it, on both sides -/
theorem nx0_cg {se se2 : Nat → Int32} {sn : Nat → Nat} {r r2 : Int32} {w : Nat} (h1 : se w = se2 w) (h2 : r = r2) : nx0 se sn r w = nx0 se2 sn r2 w := by unfold nx0; rw [h1, h2]
theorem nx1_cg {kd kd2 se se2 : Nat → Int32} {sn C C2 : Nat → Nat} {r r2 : Int32} {w : Nat} (hw : w < W) (h1 : ∀ w, w < W → se w = se2 w) (h2 : r = r2) (hk : ∀ w, w < W → kd w = kd2 w) (hC : ∀ w, w < W → C w = C2 w) : nx1 kd se sn W r C w = nx1 kd2 se2 sn W r2 C2 w := by
  have e : bsv (fun v => C v + btw kd w v) W = bsv (fun v => C2 v + btw kd2 w v) W := bsv_cong fun v hv => by rw [hC v hv, btw_cong (hk w hw) (hk v hv)]
  unfold nx1
  rw [h1 w hw, h2, e]
theorem upk_cg {kd kd2 se se2 : Nat → Int32} {sn : Nat → Nat} {row row2 : Nat → Int32} {n : Nat} (hk : ∀ w, w < W → kd w = kd2 w) (hs : ∀ w, w < W → se w = se2 w) (hr : ∀ q, q < n → row q = row2 q) : ∀ k, k < n → ∀ w, w < W → upk kd se sn W row k w = upk kd2 se2 sn W row2 k w
  | 0, h, w, hw => nx0_cg (hs w hw) (hr 0 h)
  | k + 1, h, w, hw => nx1_cg hw hs (hr (k + 1) h) hk (fun v hv => upk_cg hk hs hr k (by omega) v hv)
def afr (N N2 : ev_Mem) : Prop := (∀ k, k ≠ 14 → k ≠ 15 → N2.1 k = N.1 k) ∧ N2.2 = N.2
theorem afr.rf : afr N N := ⟨fun _ _ _ => rfl, rfl⟩
theorem afr.tr {N2 N3 : ev_Mem} (h : afr N N2) (k : afr N2 N3) : afr N N3 := ⟨fun i h1 h2 => (k.1 i h1 h2).trans (h.1 i h1 h2), k.2.trans h.2⟩
def uvN (N : ev_Mem) (sn : Nat → Nat) (W s : Nat) : Nat → Nat → Nat := upk (fun w => aw N w 0) (fun w => aw N w 1) sn W (fun q => N.1 1 (351 + 6 * s + 1 + q))
theorem layUp {Ni : ev_Mem} {s p : Nat} {sn C V : Nat → Nat} (hs : s < 8) (hp : p < 5) (hW : Ni.1 1 0 = nI W) (hW24 : W ≤ 24) (hsn : ∀ w, w < W → Ni.1 11 w = nI (sn w) ∧ (sn w ≤ 99 ∨ sn w = FARn)) (hC : 0 < p → ∀ w, w < W → Ni.1 15 w = nI (C w) ∧ (C w = FARn ∨ C w ≤ 1000))
    (hV0 : p = 0 → V = nx0 (fun w => aw Ni w 1) sn (Ni.1 1 (351 + 6 * s + 1 + p))) (hV1 : 0 < p → V = nx1 (fun w => aw Ni w 0) (fun w => aw Ni w 1) sn W (Ni.1 1 (351 + 6 * s + 1 + p)) C) :
    Cl LM (d + 2) mX11_layUpTo [.ref 0, .int (nI s), .int (nI p)] Ni (fun r N2 => r = none ∧ afr Ni N2 ∧ ∀ w, w < W → N2.1 14 w = nI (V w) ∧ N2.1 15 w = nI (V w)) := by
  have h31 := FAR31
  have hF : FARn = 1000000 := rfl
  refine Cl_of rfl (Nat.le_of_ble_eq_true rfl) rfl (gX11_layUpTo_0 ?_)
  -- the copy
  have lc : ∀ i, i ≤ W → ∀ N2, afr Ni N2 → (∀ w, w < W → N2.1 14 w = nI (V w)) → (∀ w, w < i → N2.1 15 w = nI (V w)) → Ev LM (d + 2) mX11_layUpTo 146 [some (.ref 0), none, none, some (.int (nI i)), none, none] [] N2 (fun r N2 => r = none ∧ afr Ni N2 ∧ ∀ w, w < W → N2.1 14 w = nI (V w) ∧ N2.1 15 w = nI (V w)) := by
    refine dn ?_ (fun i hi ih => ?_)
    · intro N2 hf h14 h15
      refine gX11_layUpTo_146 ⟨fun _ => ⟨rfl, hf, fun w hw => ⟨h14 w hw, h15 w hw⟩⟩, fun z => absurd ?_ z⟩
      rw [hf.1 1 (by omega) (by omega), hW]; exact nI_le (Nat.le_refl _) (by omega)
    · intro N2 hf h14 h15
      refine gX11_layUpTo_146 ⟨fun z => ?_, fun _ => ⟨vp_in_nI (by omega) (by omega), vp_in_nI (by omega) (by omega), fun N3 e3 => ?_⟩⟩
      · rw [hf.1 1 (by omega) (by omega), hW] at z; exact absurd z (nI_ge hi (by omega))
      · rw [nI_clamp (by omega), h14 i hi] at e3
        rw [nI_1]
        refine ih N3 ⟨fun k q1 q2 => by rw [e3, wr_cell q2]; exact hf.1 k q1 q2, by rw [e3]; exact hf.2⟩ (fun w hw => by rw [e3, wr_cell (by omega)]; exact h14 w hw) (fun w hw => ?_)
        rw [e3]
        by_cases e : w = i
        · rw [e, wr_same]
        · rw [wr_ne (by omega)]; exact h15 w (by omega)
  -- the words
  have lw : ∀ i, i ≤ W → ∀ N2, afr Ni N2 → N2.1 15 = Ni.1 15 → (∀ w, w < i → N2.1 14 w = nI (V w)) → Ev LM (d + 2) mX11_layUpTo 2 [some (.ref 0), some (.int (nI s)), some (.int (nI p)), some (.int (nI i)), none, none] [] N2 (fun r N2 => r = none ∧ afr Ni N2 ∧ ∀ w, w < W → N2.1 14 w = nI (V w) ∧ N2.1 15 w = nI (V w)) := by
    refine dn ?_ (fun i hi ih => ?_)
    · intro N2 hf e15 h14
      refine gX11_layUpTo_2 ⟨fun _ => lc 0 (by omega) N2 hf h14 (fun w hw => absurd hw (by omega)), fun z => absurd ?_ z⟩
      rw [hf.1 1 (by omega) (by omega), hW]; exact nI_le (Nat.le_refl _) (by omega)
    · intro N2 hf e15 h14
      have e1 := hf.1 1 (by omega) (by omega)
      have e11 := hf.1 11 (by omega) (by omega)
      have st : ∀ v : Int32, v = nI (V i) → ∀ N3, N3 = ev_wr N2 14 i v → Ev LM (d + 2) mX11_layUpTo 2 [some (.ref 0), some (.int (nI s)), some (.int (nI p)), some (.int (nI i + 1)), none, none] [] N3 (fun r N2 => r = none ∧ afr Ni N2 ∧ ∀ w, w < W → N2.1 14 w = nI (V w) ∧ N2.1 15 w = nI (V w)) := by
        intro v ev N3 e3
        rw [nI_1]
        refine ih N3 ⟨fun k q1 q2 => by rw [e3, wr_cell q1]; exact hf.1 k q1 q2, by rw [e3]; exact hf.2⟩ (by rw [e3, wr_cell (by omega)]; exact e15) (fun w hw => ?_)
        rw [e3]
        by_cases e : w = i
        · rw [e, wr_same, ev]
        · rw [wr_ne (by omega)]; exact h14 w (by omega)
      have hat : atQ N2 (nI s) (nI p) (nI i) = true ↔ (aw Ni i 1 = Ni.1 1 (351 + 6 * s + 1 + p) ∧ sn i < FARn) := by
        unfold atQ atN
        rw [nI_clamp (by omega), nI_clamp (by omega), nI_clamp (by omega), aw_1 e1, e1, e11, (hsn i hi).1, Bool.and_eq_true, decide_eq_true_eq, decide_eq_true_eq]
        have hb : sn i < 2 ^ 31 := by have := (hsn i hi).2; omega
        have : nI (sn i) < 1000000 ↔ sn i < FARn := nI_ltI hb h31
        rw [this]
      have hat0 : atQ N2 (nI s) (nI p) (nI i) = false ↔ ¬ (aw Ni i 1 = Ni.1 1 (351 + 6 * s + 1 + p) ∧ sn i < FARn) := by
        rw [← hat, Bool.not_eq_true]
      have i3 : vp_in (nI s) 8 ∧ vp_in (nI p) 5 ∧ vp_in (nI i) 24 := ⟨vp_in_nI hs (by omega), vp_in_nI hp (by omega), vp_in_nI (by omega) (by omega)⟩
      have i24 : vp_in (nI i) 24 := i3.2.2
      refine gX11_layUpTo_2 ⟨fun z => ?_, fun _ => ⟨fun z => ?_, fun z => ?_⟩⟩
      · rw [e1, hW] at z; exact absurd z (nI_ge hi (by omega))
      · have p0 : 0 < p := by
          rcases Nat.eq_zero_or_pos p with q | q
          · exact absurd (by rw [q]; rfl) z
          · exact q
        have eV := hV1 p0
        have li : ∀ v, v ≤ W → Ev LM (d + 2) mX11_layUpTo 28 [some (.ref 0), some (.int (nI s)), some (.int (nI p)), some (.int (nI i)), some (.int (nI (bsv (fun v => C v + btw (fun w => aw Ni w 0) i v) v))), some (.int (nI v))] [] N2 (fun r N2 => r = none ∧ afr Ni N2 ∧ ∀ w, w < W → N2.1 14 w = nI (V w) ∧ N2.1 15 w = nI (V w)) := by
          refine dn ?_ (fun v hv ih2 => ?_)
          · have bb1 := (bsv_le (f := fun v => C v + btw (fun w => aw Ni w 0) i v) (n := W)).1
            refine gX11_layUpTo_28 ⟨fun _ => ⟨i3, fun y => ⟨i24, fun N3 e3 => ?_⟩, fun y => ⟨fun y2 => ⟨i24, fun N3 e3 => ?_⟩, fun y2 => ⟨i24, i24, fun N3 e3 => ?_⟩⟩⟩, fun y => absurd ?_ y⟩
            · rw [nI_clamp (by omega)] at e3
              refine st 1000000 ?_ N3 e3
              rw [eV]; unfold nx1; rw [if_neg (hat0.mp y)]; rfl
            · rw [nI_clamp (by omega)] at e3
              refine st 1000000 ?_ N3 e3
              have : FARn ≤ bsv (fun v => C v + btw (fun w => aw Ni w 0) i v) W := (nI_leI h31 (by omega)).mp y2
              rw [eV]; unfold nx1; rw [if_pos (hat.mp y), if_neg (by omega)]; rfl
            · rw [nI_clamp (by omega), e11, (hsn i hi).1, nI_add] at e3
              refine st _ ?_ N3 e3
              have : bsv (fun v => C v + btw (fun w => aw Ni w 0) i v) W < FARn := by
                rcases Nat.lt_or_ge (bsv (fun v => C v + btw (fun w => aw Ni w 0) i v) W) FARn with q | q
                · exact q
                · exact absurd (nI_le q (by omega)) y2
              rw [eV]; unfold nx1; rw [if_pos (hat.mp y), if_pos this]
            · rw [e1, hW]; exact nI_le (Nat.le_refl _) (by omega)
          · obtain ⟨c1, c2⟩ := hC p0 v hv
            have bb1 := (bsv_le (f := fun v => C v + btw (fun w => aw Ni w 0) i v) (n := v)).1
            have b3 := btw_le (kd := fun w => aw Ni w 0) (w := i) (v := v)
            rw [bsv_s] at ih2
            refine gX11_layUpTo_28 ⟨fun y => ?_, fun _ => ⟨fun y => ?_, fun _ => ⟨vp_in_nI (by omega) (by omega), ?_⟩⟩⟩
            · rw [e1, hW] at y; exact absurd y (nI_ge hv (by omega))
            · exact absurd y (nI_ge (a := 0) (b := p) p0 (by omega))
            · rw [nI_clamp (by omega), e15, c1]
              refine ⟨fun y => ?_, fun y => ⟨vp_in_nI (by omega) (by omega), ⟨vp_in_nI (by omega) (by omega), i24⟩, ?_⟩⟩
              · have y2 : FARn ≤ C v := (nI_leI h31 (by omega)).mp y
                rw [if_neg (by omega)] at ih2
                rw [nI_1]; exact ih2
              · rw [show (39 + 13 * nI v + 0 : Int32) = 39 + 13 * nI v + (0 : Int32) from rfl, aw0 (by omega), aw0 (by omega), aw_1 e1]
                have eb := bhd_btw (kd := fun w => aw Ni w 0) (w := v) (v := i) (by omega) (by omega)
                rw [eb, btw_sy, nI_add]
                refine ⟨fun y2 => ?_, fun y2 => ?_⟩
                · have y3 := (nI_leI (by omega) (by omega)).mp y2
                  rw [if_neg (by omega)] at ih2
                  rw [nI_1]; exact ih2
                · have y3 : C v + btw (fun w => aw Ni w 0) i v < bsv (fun v => C v + btw (fun w => aw Ni w 0) i v) v := by
                    rcases Nat.lt_or_ge (C v + btw (fun w => aw Ni w 0) i v) (bsv (fun v => C v + btw (fun w => aw Ni w 0) i v) v) with q | q
                    · exact q
                    · exact absurd (nI_le q (by omega)) y2
                  rw [if_pos y3] at ih2
                  refine ⟨vp_in_nI (by omega) (by omega), ⟨vp_in_nI (by omega) (by omega), i24⟩, fun v1 e1 => ?_⟩
                  rw [nI_1, e1]; exact ih2
        exact li 0 (by omega)
      · have p0 : p = 0 := (nI_eq (by omega) (by omega)).mp (z.trans rfl)
        have eV := hV0 p0
        refine gX11_layUpTo_28 ⟨fun y => ?_, fun _ => ⟨fun _ => ⟨i3, fun y => ⟨i24, fun N3 e3 => ?_⟩, fun y => ⟨fun y2 => absurd y2 (by decide), fun y2 => ⟨i24, i24, fun N3 e3 => ?_⟩⟩⟩, fun y => absurd (by rw [z]; decide) y⟩⟩
        · rw [e1, hW] at y; exact absurd y (nI_ge (a := 0) (by omega) (by omega))
        · rw [nI_clamp (by omega)] at e3
          refine st 1000000 ?_ N3 e3
          rw [eV]; unfold nx0; rw [if_neg (hat0.mp y)]; rfl
        · rw [nI_clamp (by omega), e11, (hsn i hi).1, show (0 : Int32) = nI 0 from rfl, nI_add, Nat.add_zero] at e3
          refine st _ ?_ N3 e3
          rw [eV]; unfold nx0; rw [if_pos (hat.mp y)]
  exact lw 0 (by omega) Ni afr.rf rfl (fun w hw => absurd hw (by omega))
end
