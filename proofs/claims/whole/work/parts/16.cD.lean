/-! contracts: the model's words, on -/
section
variable {d : Nat} {M : ev_Mem}
def mE (M : ev_Mem) (x : Int32) : Int32 := ext (aw M x.toNatClampNeg 0) (mH M x) (mK M x)
def mS (M : ev_Mem) (x : Int32) : Int32 := sec (aw M x.toNatClampNeg 0) (mH M x)
def mC (M : ev_Mem) (x : Int32) : Bool := cbe (aw M x.toNatClampNeg 0) (fun l => M.1 1 (399 + 2 * l)) (M.1 1 9) (fun i => aw M x.toNatClampNeg (4 + i)) (aw M x.toNatClampNeg 3).toNatClampNeg
theorem kX11_extraOf {x : Int32} (h : wm M x) : Cl LM (d + 3) mX11_extraOf [.ref 0, .int x] M (ev_R (some (.int (mE M x))) M) := by
  have h0 := h
  obtain ⟨w, n, rfl, hw, hn, hl, hf, ⟨k, hk, ek⟩, -⟩ := h
  unfold mE
  rw [nI_clamp (by omega)]
  refine Cl_of rfl (Nat.le_of_ble_eq_true rfl) rfl (gX11_extraOf_0 ⟨awi0 hw, ?_, ?_, ?_, ?_, ?_⟩)
  · rw [aw0 hw]
    intro q
    refine ⟨?_, rfl⟩
    rw [q]; rfl
  · rw [aw0 hw]
    intro q
    refine ⟨h0, ?_, rfl⟩
    rw [q]; rfl
  · rw [aw0 hw]
    intro q
    have eK : ext (aw M w 0) (mH M (nI w)) (mK M (nI w)) = lks (fun i => aw M w (4 + i)) (M.1 1 9) (fun l => M.1 1 (399 + 2 * l + 1)) n := by
      rw [q]
      show mK M (nI w) = _
      unfold mK
      rw [nI_clamp (by omega), hl, nI_clamp (by omega)]
    rw [eK]
    have lp : ∀ j i, i + j = n → Ev LM (d + 1 + 2) mX11_extraOf 48 [some (.ref 0), some (.int (nI w)), some (.int (lks (fun i => aw M w (4 + i)) (M.1 1 9) (fun l => M.1 1 (399 + 2 * l + 1)) i)), some (.int (nI i))] [] M (ev_R (some (.int (lks (fun i => aw M w (4 + i)) (M.1 1 9) (fun l => M.1 1 (399 + 2 * l + 1)) n))) M) := by
      intro j
      induction j with
      | zero =>
        intro i hi
        obtain rfl : i = n := by omega
        refine gX11_extraOf_48 ⟨awi3 hw, fun _ => ⟨rfl, rfl⟩, fun h => absurd ?_ h⟩
        rw [aw3 hw, hl]
        exact nI_le (Nat.le_refl _) (by omega)
      | succ j ih =>
        intro i hi
        obtain ⟨l, hl26, el⟩ := vp_in_of (hf i (by omega)) (by omega)
        refine gX11_extraOf_48 ⟨awi3 hw, fun h => ?_, fun _ => ⟨awi4 hw (by omega), fun h => ?_, fun h => ⟨awi4 hw (by omega), ?_, fun v1 e1 => ?_⟩⟩⟩
        · rw [aw3 hw, hl] at h
          exact absurd h (nI_ge (by omega) (by omega))
        · rw [aw4 hw (by omega)] at h
          rw [nI_1, show (0 : Int32) = nI 0 from rfl]
          have := ih (i + 1) (by omega)
          rw [lks_no (f := fun i => aw M w (4 + i)) h] at this
          rw [show nI 0 = (0 : Int32) from rfl, Int32.add_zero]
          exact this
        · rw [aw4 hw (by omega), el]
          exact al_in hl26
        · rw [aw4 hw (by omega)] at h e1
          rw [el, al_at hl26] at e1
          rw [nI_1, e1]
          have := ih (i + 1) (by omega)
          rw [lks_yes (f := fun i => aw M w (4 + i)) h] at this
          simp only [el, nI_clamp (show l < 2 ^ 31 by omega)] at this
          exact this
    exact lp n 0 (by omega)
  · rw [aw0 hw]
    intro q
    refine ⟨?_, rfl⟩
    rw [q]; rfl
  · rw [aw0 hw]
    intro q
    refine ⟨awi0 hw, ?_, rfl⟩
    rw [ext, if_neg q.2.1, if_neg q.2.2.1, if_neg q.2.2.2, if_neg q.1]
theorem kX11_secondsOf {x : Int32} (h : wm M x) : Cl LM (d + 3) mX11_secondsOf [.ref 0, .int x] M (ev_R (some (.int (mS M x))) M) := by
  have h0 := h
  obtain ⟨w, n, rfl, hw, -⟩ := h
  unfold mS
  rw [nI_clamp (by omega)]
  refine Cl_of rfl (Nat.le_of_ble_eq_true rfl) rfl (gX11_secondsOf_0 ⟨awi0 hw, ?_, ?_⟩)
  · rw [aw0 hw]
    intro q
    refine ⟨awi0 hw, fun q6 => ⟨?_, rfl⟩, fun q6 => ⟨h0, ?_, rfl⟩⟩
    · rw [sec, if_neg q, if_neg q6]
    · rw [sec, if_neg q, if_pos q6]
  · rw [aw0 hw]
    intro q
    refine ⟨h0, ?_, rfl⟩
    rw [sec, if_pos q]
theorem mnd_mdl {mo : Nat → Int32} {s l : Int32} (h : mo l.toNatClampNeg = -1 ∨ vp_in (mo l.toNatClampNeg) 26) : mnd mo s l = mdl s (mo l.toNatClampNeg) := by
  unfold mnd mdl
  rcases h with h | h
  · rw [h]; rfl
  · obtain ⟨j, hj, e⟩ := vp_in_of h (by omega)
    rw [e]
    have h1 : iin (nI j) 0 25 = true := (iin_lit 25 (by omega)).mpr ⟨j, by omega, rfl⟩
    have h2 : ¬ nI j = -1 := fun q => by
      have := congrArg Int32.toInt q
      rw [nI_toInt (by omega), I_m1] at this
      omega
    rw [h1, decide_eq_false h2]
    rfl
theorem hol_0 {f : Nat → Int32} {s : Int32} : ∀ {n : Nat}, hol f s n = 0 ↔ ∀ i, i < n → hs s (f i) = false
  | 0 => ⟨fun _ i h => absurd h (by omega), fun _ => rfl⟩
  | n + 1 => by
    constructor
    · intro h i hi
      unfold hol at h
      have h1 : hol f s n = 0 := by omega
      rcases Nat.lt_or_ge i n with q | q
      · exact hol_0.mp h1 i q
      · rw [show i = n by omega]
        cases e : hs s (f n) with
        | false => rfl
        | true => rw [if_pos e] at h; omega
    · intro h
      unfold hol
      rw [hol_0.mpr (fun i hi => h i (by omega)), if_neg (by rw [h n (by omega)]; decide)]
theorem kX11_canBe {x : Int32} (h : wm M x) (hm : okMd M) : Cl LM (d + 3) mX11_canBe [.ref 0, .int x] M (ev_R (some (.int (bi (mC M x)))) M) := by
  have h0 := h
  obtain ⟨w, n, rfl, hw, hn, hl, hf, -⟩ := h
  have eC : mC M (nI w) = cbe (aw M w 0) (fun l => M.1 1 (399 + 2 * l)) (M.1 1 9) (fun i => aw M w (4 + i)) n := by
    unfold mC
    rw [nI_clamp (by omega), hl, nI_clamp (by omega)]
  rw [eC]
  refine Cl_of rfl (Nat.le_of_ble_eq_true rfl) rfl (gX11_canBe_0 ⟨awi0 hw, fun v1 e1 => ?_⟩)
  rw [aw0 hw] at e1
  refine ⟨fun q => ⟨?_, rfl⟩, fun q4 => ⟨fun q6 => ⟨fun q5 => ?_, fun q5 => ⟨h0, fun q => ⟨?_, rfl⟩, fun q => ⟨?_, rfl⟩⟩⟩, fun q => ⟨?_, rfl⟩⟩⟩
  · rw [cbe, if_pos (Or.inl (e1 ▸ q))]; rfl
  · rw [e1] at q4 q5 q6
    rw [cbe, if_neg (fun z => z.elim q4 q6), q5]
    have lp : ∀ j i, i + j = n → (∀ i', i' < i → cbl 5 (fun l => M.1 1 (399 + 2 * l)) (M.1 1 9) (aw M w (4 + i')) = true) → Ev LM (d + 3) mX11_canBe 41 [some (.ref 0), some (.int (nI w)), none, some (.int (nI i))] [] M (ev_R (some (.int (bi (al (fun i => cbl 5 (fun l => M.1 1 (399 + 2 * l)) (M.1 1 9) (aw M w (4 + i))) n)))) M) := by
      intro j
      induction j with
      | zero =>
        intro i hi ha
        obtain rfl : i = n := by omega
        refine gX11_canBe_41 ⟨awi3 hw, fun _ => ⟨?_, rfl⟩, fun h => absurd ?_ h⟩
        · rw [al_t.mpr ha]; rfl
        · rw [aw3 hw, hl]
          exact nI_le (Nat.le_refl _) (by omega)
      | succ j ih =>
        intro i hi ha
        obtain ⟨l, hl26, el⟩ := vp_in_of (hf i (by omega)) (by omega)
        have em : mnd (fun l => M.1 1 (399 + 2 * l)) (M.1 1 9) (aw M w (4 + i)) = mdl (M.1 1 9) (M.1 1 (399 + 2 * l)) := by
          have := mnd_mdl (mo := fun l => M.1 1 (399 + 2 * l)) (s := M.1 1 9) (l := aw M w (4 + i)) (by rw [el, nI_clamp (by omega)]; exact hm l hl26)
          rw [this, el, nI_clamp (by omega)]
        have nx : cbl 5 (fun l => M.1 1 (399 + 2 * l)) (M.1 1 9) (aw M w (4 + i)) = true → Ev LM (d + 3) mX11_canBe 41 [some (.ref 0), some (.int (nI w)), none, some (.int (nI i + 1))] [] M (ev_R (some (.int (bi (al (fun i => cbl 5 (fun l => M.1 1 (399 + 2 * l)) (M.1 1 9) (aw M w (4 + i))) n)))) M) := by
          intro hv
          rw [nI_1]
          refine ih (i + 1) (by omega) (fun i' hi' => ?_)
          rcases Nat.lt_or_ge i' i with z | z
          · exact ha i' z
          · rw [show i' = i by omega]; exact hv
        refine gX11_canBe_41 ⟨awi3 hw, fun h => ?_, fun _ => ⟨awi4 hw (by omega), fun h => ?_, fun h => ⟨awi4 hw (by omega), ?_, fun h2 => ?_, fun h2 => ⟨?_, rfl⟩⟩⟩⟩
        · rw [aw3 hw, hl] at h
          exact absurd h (nI_ge (by omega) (by omega))
        · rw [aw4 hw (by omega)] at h
          exact nx (by rw [cbl, h]; rfl)
        · rw [aw4 hw (by omega), el]
          exact am_in hl26
        · rw [aw4 hw (by omega)] at h h2
          rw [el, am_at hl26] at h2
          exact nx (by rw [cbl, h, em, h2]; rfl)
        · rw [aw4 hw (by omega)] at h h2
          rw [el, am_at hl26] at h2
          rw [al_f (i := i) (by omega) (by show cbl _ _ _ _ = false; rw [cbl, h, em, h2]; rfl)]
          rfl
    exact lp n 0 (by omega) (fun i' hi' => absurd hi' (by omega))
  · rw [e1] at q4 q5 q6
    have eH : mH M (nI w) = hol (fun i => aw M w (4 + i)) (M.1 1 9) n := by
      unfold mH
      rw [nI_clamp (by omega), hl, nI_clamp (by omega)]
    rw [eH] at q
    rw [cbe, if_neg (fun z => z.elim q4 q6)]
    have hne : ¬ hol (fun i => aw M w (4 + i)) (M.1 1 9) n = 0 := fun z => q (by rw [z]; rfl)
    have : al (fun i => cbl (aw M w 0) (fun l => M.1 1 (399 + 2 * l)) (M.1 1 9) (aw M w (4 + i))) n = false := by
      rw [← Bool.not_eq_true, al_t]
      intro z
      refine hne (hol_0.mpr (fun i hi => ?_))
      have := z i hi
      rw [cbl, decide_eq_false q5, Bool.false_and, Bool.or_false] at this
      simpa using this
    rw [this]; rfl
  · rw [e1] at q4 q5 q6
    have eH : mH M (nI w) = hol (fun i => aw M w (4 + i)) (M.1 1 9) n := by
      unfold mH
      rw [nI_clamp (by omega), hl, nI_clamp (by omega)]
    rw [eH] at q
    rw [cbe, if_neg (fun z => z.elim q4 q6)]
    have h9 := hol_le (fun i => aw M w (4 + i)) (M.1 1 9) n
    have hz : hol (fun i => aw M w (4 + i)) (M.1 1 9) n = 0 := (nI_eq (by omega) (by omega)).mp q
    have : al (fun i => cbl (aw M w 0) (fun l => M.1 1 (399 + 2 * l)) (M.1 1 9) (aw M w (4 + i))) n = true := by
      rw [al_t]
      intro i hi
      rw [cbl, hol_0.mp hz i hi]
      rfl
    rw [this]; rfl
  · rw [cbe, if_pos (Or.inr (e1 ▸ q))]; rfl
end
