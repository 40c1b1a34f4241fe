/-! the class: the least costs of a place, with any word left out -/
section
variable {d : Nat} {M : ev_Mem}
theorem bst_ge {f : Nat → Nat} {i : Nat} (h : bsv f i ≤ f i) : bst f (i + 1) = bst f i := by
  rw [bst]
  cases e : bst f i with
  | none => rw [bsv_none e] at h; simp only; rw [if_neg (by omega)]
  | some m => rw [bsv_some e] at h; simp only; rw [if_neg (by omega)]
theorem bst_ls {f : Nat → Nat} {i : Nat} (h : f i < bsv f i) : bst f (i + 1) = some i := by
  rw [bst]
  cases e : bst f i with
  | none => rw [bsv_none e] at h; simp only; rw [if_pos h]
  | some m => rw [bsv_some e] at h; simp only; rw [if_pos h]
theorem bsv_uq {f : Nat → Nat} {n m : Nat} (h1 : m ≤ FARn) (h2 : ∀ v, v < n → m ≤ f v) (h3 : m = FARn ∨ ∃ v, v < n ∧ f v = m) : bsv f n = m := by
  obtain ⟨k1, k2⟩ := bsv_le (f := f) (n := n)
  rcases Nat.lt_or_ge (bsv f n) FARn with q | q
  · obtain ⟨v, hv, ev⟩ := bsv_at q
    have := h2 v (bst_lt hv).1
    rcases h3 with z | ⟨u, hu, eu⟩
    · omega
    · have := k2 u hu; omega
  · rcases h3 with z | ⟨u, hu, eu⟩
    · omega
    · have := k2 u hu; omega
def lwI (M : ev_Mem) (k : Nat) (f : Nat → Nat) (i : Nat) : Prop := M.1 k 0 = nI (bsv f i) ∧ M.1 k 2 = onI (bst f i) ∧ ∃ s, M.1 k 1 = nI s ∧ s ≤ FARn ∧ bsv f i ≤ s ∧ (∀ v, v < i → bst f i ≠ some v → s ≤ f v) ∧ (s = FARn ∨ ∃ v, v < i ∧ bst f i ≠ some v ∧ f v = s)
theorem lwI_0 {k : Nat} {f : Nat → Nat} : lwI (loM M k) k f 0 := by
  refine ⟨?_, ?_, FARn, ?_, Nat.le_refl _, Nat.le_refl _, fun v h => absurd h (by omega), Or.inl rfl⟩
  · unfold loM; rw [wr_ne (by omega), wr_ne (by omega), wr_same]; rfl
  · unfold loM; rw [wr_same]; rfl
  · unfold loM; rw [wr_ne (by omega), wr_same]; rfl
theorem lwI_cg {M2 : ev_Mem} {k i : Nat} {f : Nat → Nat} (h : M2.1 k = M.1 k) (q : lwI M k f i) : lwI M2 k f i := by unfold lwI at q ⊢; rw [h]; exact q
theorem lwI_no {k i : Nat} {f : Nat → Nat} (hf : f i = FARn) (q : lwI M k f i) : lwI M k f (i + 1) := by
  obtain ⟨q1, q2, s, q3, q4, q5, q6, q7⟩ := q
  have hb := (bsv_le (f := f) (n := i)).1
  have e1 : bst f (i + 1) = bst f i := bst_ge (by omega)
  have e2 : bsv f (i + 1) = bsv f i := by rw [bsv_s, if_neg (by omega)]
  refine ⟨by rw [e2]; exact q1, by rw [e1]; exact q2, s, q3, q4, by rw [e2]; exact q5, fun v hv hne => ?_, ?_⟩
  · rw [e1] at hne
    rcases Nat.lt_or_ge v i with z | z
    · exact q6 v z hne
    · rw [show v = i by omega, hf]; exact q4
  · rw [e1]
    rcases q7 with z | ⟨v, hv, h1, h2⟩
    · exact Or.inl z
    · exact Or.inr ⟨v, by omega, h1, h2⟩
theorem lwI_see {k i : Nat} {f : Nat → Nat} (hi : i < 24) (hf : f i ≤ FARn) (q : lwI M k f i) : lwI (seeM M k (nI i) (nI (f i))) k f (i + 1) := by
  obtain ⟨q1, q2, s, q3, q4, q5, q6, q7⟩ := q
  have hb := (bsv_le (f := f) (n := i)).1
  have F31 : FARn < 2 ^ 31 := by unfold FARn; omega
  unfold seeM
  rcases Nat.lt_or_ge (f i) (bsv f i) with z | z
  · have e1 : bst f (i + 1) = some i := bst_ls z
    have e2 : bsv f (i + 1) = f i := by rw [bsv_s, if_pos z]
    rw [if_neg (by rw [q1]; exact nI_ge z (by omega))]
    refine ⟨?_, ?_, bsv f i, ?_, hb, by rw [e2]; omega, fun v hv hne => ?_, ?_⟩
    · rw [e2, wr_ne (by omega), wr_same]
    · rw [e1, wr_same]; rfl
    · rw [wr_ne (by omega), wr_ne (by omega), wr_same, q1]
    · rw [e1] at hne
      exact (bsv_le (f := f) (n := i)).2 v (by rcases Nat.lt_or_ge v i with y | y; exact y; exact absurd (by rw [show v = i by omega]) hne)
    · rcases Nat.lt_or_ge (bsv f i) FARn with y | y
      · obtain ⟨m, hm, em⟩ := bsv_at y
        have := (bst_lt hm).1
        exact Or.inr ⟨m, by omega, by rw [e1]; intro t; cases t; omega, em⟩
      · exact Or.inl (by omega)
  · have e1 : bst f (i + 1) = bst f i := bst_ge z
    have e2 : bsv f (i + 1) = bsv f i := by rw [bsv_s, if_neg (by omega)]
    rw [if_pos (by rw [q1]; exact nI_le z (by omega))]
    rcases Nat.lt_or_ge (f i) s with y | y
    · rw [if_neg (by rw [q3]; exact nI_ge y (by omega))]
      refine ⟨by rw [e2, wr_ne (by omega)]; exact q1, by rw [e1, wr_ne (by omega)]; exact q2, f i, wr_same, hf, by rw [e2]; exact z, fun v hv hne => ?_, Or.inr ⟨i, by omega, ?_, rfl⟩⟩
      · rw [e1] at hne
        rcases Nat.lt_or_ge v i with t | t
        · have := q6 v t hne; omega
        · rw [show v = i by omega]; exact Nat.le_refl _
      · rw [e1]; intro t; have := (bst_lt t).1; omega
    · rw [if_pos (by rw [q3]; exact nI_le y (by omega))]
      refine ⟨by rw [e2]; exact q1, by rw [e1]; exact q2, s, q3, q4, by rw [e2]; exact q5, fun v hv hne => ?_, ?_⟩
      · rw [e1] at hne
        rcases Nat.lt_or_ge v i with t | t
        · exact q6 v t hne
        · rw [show v = i by omega]; exact y
      · rw [e1]
        rcases q7 with t | ⟨v, hv, h1, h2⟩
        · exact Or.inl t
        · exact Or.inr ⟨v, by omega, h1, h2⟩
theorem seeM_cell {k a : Nat} {o c : Int32} (h : a ≠ k) : (seeM M k o c).1 a = M.1 a := by
  unfold seeM
  split
  · split
    · rfl
    · exact wr_cell h
  · rw [wr_cell h, wr_cell h, wr_cell h]
theorem seeM_two {k : Nat} {o c : Int32} : (seeM M k o c).2 = M.2 := by
  unfold seeM
  split
  · split <;> rfl
  · rfl
theorem loM_cell {k a : Nat} (h : a ≠ k) : (loM M k).1 a = M.1 a := by unfold loM; rw [wr_cell h, wr_cell h, wr_cell h]
def wfr (M M2 : ev_Mem) : Prop := (∀ k, k ≠ 97 → k ≠ 98 → M2.1 k = M.1 k) ∧ M2.2 = M.2
def ftn (kd : Nat → Int32) (C : Nat → Nat) (v : Nat) : Nat := if kd v = 2 then C v else FARn
def fot (kd : Nat → Int32) (C : Nat → Nat) (v : Nat) : Nat := if kd v = 2 then FARn else C v
theorem kX6_seeCosts {p W : Nat} {C : Nat → Nat} (hp : p < 5) (hW : M.1 3 5 = nI W) (hW24 : W ≤ 24) (hC : ∀ w, w < W → M.1 (92 + p) w = nI (C w) ∧ C w ≤ FARn) :
    Cl LX (d + 1) mX6_seeCosts [.ref 86, .int (nI p)] M (fun r M2 => r = none ∧ wfr M M2 ∧ lwI M2 97 (ftn (M.1 30) C) W ∧ lwI M2 98 (fot (M.1 30) C) W) := by
  refine Cl_of rfl (Nat.le_of_ble_eq_true rfl) rfl (gX6_seeCosts_0 fun M1 e1 M2 e2 => ?_)
  have lp : ∀ i, i ≤ W → ∀ M2, wfr M M2 → lwI M2 97 (ftn (M.1 30) C) i → lwI M2 98 (fot (M.1 30) C) i → Ev LX (d + 1) mX6_seeCosts 16 [some (.ref 86), some (.int (nI p)), some (.int (nI i))] [] M2 (fun r M2 => r = none ∧ wfr M M2 ∧ lwI M2 97 (ftn (M.1 30) C) W ∧ lwI M2 98 (fot (M.1 30) C) W) := by
    refine dn ?_ (fun i hi ih => ?_)
    · intro M2 hf h1 h2
      refine gX6_seeCosts_16 ⟨fun _ => ⟨rfl, hf, h1, h2⟩, fun h => absurd ?_ h⟩
      rw [hf.1 3 (by omega) (by omega), hW]; exact nI_le (Nat.le_refl _) (by omega)
    · intro M2 hf h1 h2
      have hv : vp_in (nI i) 24 := vp_in_nI (by omega) (by omega)
      have e30 : M2.1 30 = M.1 30 := hf.1 30 (by omega) (by omega)
      have eC : M2.1 (92 + (nI p).toNatClampNeg) (nI i).toNatClampNeg = nI (C i) := by
        rw [nI_clamp (by omega), nI_clamp (by omega), hf.1 _ (by omega) (by omega)]; exact (hC i hi).1
      refine gX6_seeCosts_16 ⟨fun h => ?_, fun _ => ⟨hv, fun h => ⟨vp_in_nI hp (by omega), hv, fun M3 e3 => ?_⟩, fun h => ⟨vp_in_nI hp (by omega), hv, fun M3 e3 => ?_⟩⟩⟩
      · rw [hf.1 3 (by omega) (by omega), hW] at h
        exact absurd h (nI_ge (by omega) (by omega))
      · rw [eC] at e3
        rw [e30, nI_clamp (by omega)] at h
        have ef : fot (M.1 30) C i = C i := if_neg h
        have eg : ftn (M.1 30) C i = FARn := if_neg h
        rw [nI_1]
        refine ih M3 ⟨fun k k1 k2 => by rw [e3, seeM_cell k2]; exact hf.1 k k1 k2, by rw [e3, seeM_two]; exact hf.2⟩ (lwI_cg (by rw [e3, seeM_cell (by omega)]) (lwI_no eg h1)) ?_
        rw [e3, ← ef]
        exact lwI_see (by omega) (by rw [ef]; exact (hC i hi).2) h2
      · rw [eC] at e3
        rw [e30, nI_clamp (by omega)] at h
        have ef : fot (M.1 30) C i = FARn := if_pos h
        have eg : ftn (M.1 30) C i = C i := if_pos h
        rw [nI_1]
        refine ih M3 ⟨fun k k1 k2 => by rw [e3, seeM_cell k1]; exact hf.1 k k1 k2, by rw [e3, seeM_two]; exact hf.2⟩ ?_ (lwI_cg (by rw [e3, seeM_cell (by omega)]) (lwI_no ef h2))
        rw [e3, ← eg]
        exact lwI_see (by omega) (by rw [eg]; exact (hC i hi).2) h1
  refine lp 0 (by omega) M2 ⟨fun k k1 k2 => by rw [e2, loM_cell k2, e1, loM_cell k1], by rw [e2, e1]; rfl⟩ ?_ ?_
  · exact lwI_cg (by rw [e2, loM_cell (by omega), e1]) (lwI_0 (M := M))
  · rw [e2]; exact lwI_0
theorem imin_nI {a b : Nat} (ha : a < 2 ^ 31) (hb : b < 2 ^ 31) : imin (nI a) (nI b) = nI (min a b) := by
  unfold imin
  rcases Nat.lt_or_ge b a with h | h
  · rw [if_pos ((nI_ltI hb ha).mpr h), Nat.min_eq_right (by omega)]
  · rw [if_neg (fun z => by have := (nI_ltI hb ha).mp z; omega), Nat.min_eq_left h]
/-- with a word left out -/
theorem wou_ok {k W w : Nat} {f : Nat → Nat} (hW : W ≤ 24) (hw : w < W) (h : lwI M k f W) : ∃ o, wou M k (nI w) = nI o ∧ o ≤ FARn ∧ (∀ v, v < W → v ≠ w → o ≤ f v) ∧ (o = FARn ∨ ∃ v, v < W ∧ v ≠ w ∧ f v = o) := by
  obtain ⟨q1, q2, s, q3, q4, q5, q6, q7⟩ := h
  unfold wou
  by_cases hz : bst f W = some w
  · rw [if_pos (by rw [q2, hz]; rfl)]
    refine ⟨s, q3, q4, fun v hv hne => q6 v hv (by rw [hz]; intro t; cases t; exact hne rfl), ?_⟩
    rcases q7 with t | ⟨v, hv, h1, h2⟩
    · exact Or.inl t
    · exact Or.inr ⟨v, hv, by rintro rfl; exact h1 hz, h2⟩
  · rw [if_neg (by
      rw [q2]
      intro t
      cases e : bst f W with
      | none =>
        rw [e] at t
        have := congrArg Int32.toInt t
        rw [nI_toInt (by omega), show (onI none) = (-1 : Int32) from rfl, I_m1] at this
        omega
      | some m =>
        rw [e] at t
        have hm := (bst_lt e).1
        have := (nI_eq (by omega) (by omega)).mp (show nI w = nI m from t)
        rw [this] at hz; exact hz e)]
    refine ⟨_, q1, (bsv_le).1, fun v hv _ => (bsv_le).2 v hv, ?_⟩
    rcases Nat.lt_or_ge (bsv f W) FARn with y | y
    · obtain ⟨m, hm, em⟩ := bsv_at y
      exact Or.inr ⟨m, (bst_lt hm).1, by rintro rfl; exact hz hm, em⟩
    · exact Or.inl (by have := (bsv_le (f := f) (n := W)).1; omega)
theorem kX6_leastBeside {W w : Nat} {C : Nat → Nat} (hW24 : W ≤ 24) (hw : w < W) (hC : ∀ w, w < W → C w ≤ FARn) (h1 : lwI M 97 (ftn (M.1 30) C) W) (h2 : lwI M 98 (fot (M.1 30) C) W) :
    ∃ b, b < 2 ^ 30 ∧ min b FARn = bsv (fun v => C v + btw (M.1 30) w v) W ∧ Cl LX (d + 1) mX6_leastBeside [.ref 86, .int (nI w), .int (nI (C w))] M (ev_R (some (.int (nI b))) M) := by
  have hv : vp_in (nI w) 24 := vp_in_nI (by omega) (by omega)
  have F30 : FARn < 2 ^ 29 := by unfold FARn; omega
  have hCw := hC w hw
  have k1 := h1.1
  have k2 := h2.1
  have b1 := bsv_le (f := ftn (M.1 30) C) (n := W)
  have b2 := bsv_le (f := fot (M.1 30) C) (n := W)
  have at1 : bsv (ftn (M.1 30) C) W = FARn ∨ ∃ v, v < W ∧ ftn (M.1 30) C v = bsv (ftn (M.1 30) C) W := by
    rcases Nat.lt_or_ge (bsv (ftn (M.1 30) C) W) FARn with y | y
    · obtain ⟨m, hm, em⟩ := bsv_at y; exact Or.inr ⟨m, (bst_lt hm).1, em⟩
    · exact Or.inl (by omega)
  have at2 : bsv (fot (M.1 30) C) W = FARn ∨ ∃ v, v < W ∧ fot (M.1 30) C v = bsv (fot (M.1 30) C) W := by
    rcases Nat.lt_or_ge (bsv (fot (M.1 30) C) W) FARn with y | y
    · obtain ⟨m, hm, em⟩ := bsv_at y; exact Or.inr ⟨m, (bst_lt hm).1, em⟩
    · exact Or.inl (by omega)
  have nn : ∀ a b : Nat, nI a + nI b = nI (a + b) := nI_add
  by_cases hk : M.1 30 w = 2
  · obtain ⟨o, eo, o1, o2, o3⟩ := wou_ok hW24 hw h1
    refine ⟨min (min (bsv (fot (M.1 30) C) W) (o + 1)) (C w + 3), by omega, ?_, ?_⟩
    · refine (bsv_uq (by omega) (fun v hv => ?_) ?_).symm
      · unfold btw
        by_cases e : w = v
        · rw [if_pos e, ← e]; omega
        · rw [if_neg e]
          by_cases ek : M.1 30 v = 2
          · rw [if_pos ⟨hk, ek⟩]
            have := o2 v hv (Ne.symm e)
            unfold ftn at this
            rw [if_pos ek] at this
            omega
          · rw [if_neg (fun z => ek z.2)]
            have := b2.2 v hv
            unfold fot at this
            rw [if_neg ek] at this
            unfold fot
            omega
      · by_cases hF : min (min (bsv (fot (M.1 30) C) W) (o + 1)) (C w + 3) < FARn
        · right
          by_cases hA : bsv (fot (M.1 30) C) W = min (min (bsv (fot (M.1 30) C) W) (o + 1)) (C w + 3)
          · obtain ⟨v, hv, ev⟩ := at2.resolve_left (by omega)
            have ek : ¬ M.1 30 v = 2 := fun z => by unfold fot at ev; rw [if_pos z] at ev; unfold fot at hA hF; omega
            refine ⟨v, hv, ?_⟩
            have hne : w ≠ v := by rintro rfl; exact ek hk
            unfold btw
            rw [if_neg hne, if_neg (fun z => ek z.2)]
            have e2 : fot (M.1 30) C v = C v := if_neg ek
            omega
          · by_cases hB : o + 1 = min (min (bsv (fot (M.1 30) C) W) (o + 1)) (C w + 3)
            · obtain ⟨v, hv, hne, ev⟩ := o3.resolve_left (by omega)
              have ek : M.1 30 v = 2 := by
                rcases Classical.em (M.1 30 v = 2) with z | z
                · exact z
                · have : ftn (M.1 30) C v = FARn := if_neg z
                  omega
              refine ⟨v, hv, ?_⟩
              unfold btw
              rw [if_neg (Ne.symm hne), if_pos ⟨hk, ek⟩]
              have e2 : ftn (M.1 30) C v = C v := if_pos ek
              omega
            · refine ⟨w, hw, ?_⟩
              unfold btw
              rw [if_pos rfl]
              omega
        · exact Or.inl (by omega)
    · refine Cl_of rfl (Nat.le_of_ble_eq_true rfl) rfl (gX6_leastBeside_0 ⟨hv, fun z => absurd (by rw [nI_clamp (by omega)]; exact hk) z, fun _ v2 e2 => ⟨?_, rfl⟩⟩)
      rw [e2, k2, eo, show (1 : Int32) = nI 1 from rfl, show (3 : Int32) = nI 3 from rfl, nn, nn, imin_nI (by omega) (by omega), imin_nI (by omega) (by omega)]
  · obtain ⟨o, eo, o1, o2, o3⟩ := wou_ok hW24 hw h2
    refine ⟨min (min o (bsv (ftn (M.1 30) C) W)) (C w + 3), by omega, ?_, ?_⟩
    · refine (bsv_uq (by omega) (fun v hv => ?_) ?_).symm
      · unfold btw
        by_cases e : w = v
        · rw [if_pos e, ← e]; omega
        · rw [if_neg e, if_neg (fun z => hk z.1)]
          by_cases ek : M.1 30 v = 2
          · have := b1.2 v hv
            have e2 : ftn (M.1 30) C v = C v := if_pos ek
            omega
          · have := o2 v hv (Ne.symm e)
            have e2 : fot (M.1 30) C v = C v := if_neg ek
            omega
      · by_cases hF : min (min o (bsv (ftn (M.1 30) C) W)) (C w + 3) < FARn
        · right
          by_cases hA : bsv (ftn (M.1 30) C) W = min (min o (bsv (ftn (M.1 30) C) W)) (C w + 3)
          · obtain ⟨v, hv, ev⟩ := at1.resolve_left (by omega)
            have ek : M.1 30 v = 2 := by
              rcases Classical.em (M.1 30 v = 2) with z | z
              · exact z
              · have : ftn (M.1 30) C v = FARn := if_neg z
                omega
            refine ⟨v, hv, ?_⟩
            have hne : w ≠ v := by rintro rfl; exact hk ek
            unfold btw
            rw [if_neg hne, if_neg (fun z => hk z.1)]
            have e2 : ftn (M.1 30) C v = C v := if_pos ek
            omega
          · by_cases hB : o = min (min o (bsv (ftn (M.1 30) C) W)) (C w + 3)
            · obtain ⟨v, hv, hne, ev⟩ := o3.resolve_left (by omega)
              have ek : ¬ M.1 30 v = 2 := fun z => by
                have : fot (M.1 30) C v = FARn := if_pos z
                omega
              refine ⟨v, hv, ?_⟩
              unfold btw
              rw [if_neg (Ne.symm hne), if_neg (fun z => hk z.1)]
              have e2 : fot (M.1 30) C v = C v := if_neg ek
              omega
            · refine ⟨w, hw, ?_⟩
              unfold btw
              rw [if_pos rfl]
              omega
        · exact Or.inl (by omega)
    · refine Cl_of rfl (Nat.le_of_ble_eq_true rfl) rfl (gX6_leastBeside_0 ⟨hv, fun _ v2 e2 => ⟨?_, rfl⟩, fun z => absurd (by rw [nI_clamp (by omega)] at z; exact z) hk⟩)
      rw [e2, k1, eo, show (3 : Int32) = nI 3 from rfl, nn, imin_nI (by omega) (by omega), imin_nI (by omega) (by omega)]
end
