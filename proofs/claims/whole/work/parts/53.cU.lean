/-! the class: the costs along a sentence, from its end and from its beginning -/
section
variable {d : Nat} {M : ev_Mem}
/-- rows of costs, speech's own cells -/
def pfr (M M2 : ev_Mem) : Prop := (∀ k, k < 92 ∨ 98 < k → M2.1 k = M.1 k) ∧ M2.2 = M.2
theorem pfr.rf : pfr M M := ⟨fun _ _ => rfl, rfl⟩
theorem pfr_ffr {p : Nat} {M1 M2 : ev_Mem} (hp : p < 5) (h : pfr M M1) (k : ffr p M1 M2) : pfr M M2 := ⟨fun i hi => (k.1 i (by omega) (by omega) (by omega)).trans (h.1 i hi), k.2.trans h.2⟩
theorem snR_cg {M2 : ev_Mem} {sn : Nat → Nat} {W : Nat} (h1 : M2.1 87 = M.1 87) (h2 : M2.1 88 = M.1 88) (h : snR M sn W) : snR M2 sn W := by unfold snR at h ⊢; rw [h1, h2]; exact h
theorem snR_99 {sn : Nat → Nat} {W : Nat} (h : snR M sn W) : ∀ w, w < W → sn w < FARn → sn w ≤ 99 := fun w hw h1 => by
  rcases h w hw with z | z
  · omega
  · exact z.2.2
def cpX (M : ev_Mem) (sn : Nat → Nat) (W s n : Nat) : Nat → Nat → Nat := cpk (M.1 30) (M.1 31) sn W (M.1 (34 + s)) n
theorem kX6_costOf {s n W : Nat} {sn : Nat → Nat} (hs8 : s < 8) (hn1 : 1 ≤ n) (hn5 : n ≤ 5) (hn : M.1 42 s = nI n) (hW : M.1 3 5 = nI W) (hW24 : W ≤ 24) (hs : snR M sn W) :
    Cl LX (d + 3) mX6_costOf [.ref 86, .int (nI s)] M (fun z M2 => z = some (.int (nI (bsv (cpX M sn W s n (n - 1)) W))) ∧ pfr M M2 ∧ ∀ p, p < n → ∀ w, w < W → M2.1 (92 + p) w = nI (cpX M sn W s n (n - 1 - p) w)) := by
  have hb : ∀ k, k < 5 → ∀ w, w < W → cpX M sn W s n k w = FARn ∨ cpX M sn W s n k w ≤ 1000 := fun k hk w hw => by
    rcases cpk_b (kd := M.1 30) (se := M.1 31) (row := M.1 (34 + s)) (n := n) (snR_99 hs) k (by omega) w hw with z | z
    · exact Or.inl z
    · exact Or.inr (by unfold cpX; omega)
  refine Cl_of rfl (Nat.le_of_ble_eq_true rfl) rfl (gX6_costOf_0 ⟨vp_in_nI hs8 (by omega), fun v1 e1 => ?_⟩)
  rw [nI_clamp (by omega), hn, show (1 : Int32) = nI 1 from rfl, pk_sub hn1] at e1
  have fin : ∀ M2, pfr M M2 → (∀ p, p < n → ∀ w, w < W → M2.1 (92 + p) w = nI (cpX M sn W s n (n - 1 - p) w)) → ∀ i, i ≤ W → Ev LX (d + 3) mX6_costOf 48 [some (.ref 86), none, none, some (.int (nI (bsv (cpX M sn W s n (n - 1)) i))), some (.int (nI i))] [] M2 (fun z M2 => z = some (.int (nI (bsv (cpX M sn W s n (n - 1)) W))) ∧ pfr M M2 ∧ ∀ p, p < n → ∀ w, w < W → M2.1 (92 + p) w = nI (cpX M sn W s n (n - 1 - p) w)) := by
    intro M2 hf hr
    refine dn ?_ (fun i hi ih => ?_)
    · refine gX6_costOf_48 ⟨fun _ => ⟨rfl, hf, hr⟩, fun h => absurd ?_ h⟩
      rw [hf.1 3 (by omega), hW]; exact nI_le (Nat.le_refl _) (by omega)
    · refine gX6_costOf_48 ⟨fun h => ?_, fun _ => ⟨vp_in_nI (n := 0) (N := 5) (by omega) (by omega), vp_in_nI (by omega) (by omega), fun v2 e2 => ?_⟩⟩
      · rw [hf.1 3 (by omega), hW] at h
        exact absurd h (nI_ge (by omega) (by omega))
      · have hF := (bsv_le (f := cpX M sn W s n (n - 1)) (n := i)).1
        have hF3 : FARn < 2 ^ 29 := by unfold FARn; omega
        have hc := hb (n - 1) (by omega) i hi
        rw [show ((0 : Int32)).toNatClampNeg = 0 from rfl, nI_clamp (by omega), hr 0 (by omega) i hi, imin_nI (by omega) (by rcases hc with z | z <;> (rw [show n - 1 - 0 = n - 1 from rfl]; omega))] at e2
        rw [e2, nI_1]
        have e3 : min (bsv (cpX M sn W s n (n - 1)) i) (cpX M sn W s n (n - 1 - 0) i) = bsv (cpX M sn W s n (n - 1)) (i + 1) := by
          rw [bsv_s, show n - 1 - 0 = n - 1 from rfl]
          split <;> omega
        rw [e3]
        exact ih
  have lp : ∀ i, i ≤ n → ∀ M2, pfr M M2 → (∀ p, n - i ≤ p → p < n → ∀ w, w < W → M2.1 (92 + p) w = nI (cpX M sn W s n (n - 1 - p) w)) → ∀ x3, (x3 = nI (n - i) + (-1)) → Ev LX (d + 3) mX6_costOf 14 [some (.ref 86), some (.int (nI s)), some (.int (nI (n - 1))), some (.int x3), none] [] M2 (fun z M2 => z = some (.int (nI (bsv (cpX M sn W s n (n - 1)) W))) ∧ pfr M M2 ∧ ∀ p, p < n → ∀ w, w < W → M2.1 (92 + p) w = nI (cpX M sn W s n (n - 1 - p) w)) := by
    refine dn ?_ (fun i hi ih => ?_)
    · intro M2 hf hr x3 e3
      refine gX6_costOf_14 ⟨fun _ => ?_, fun h => absurd ?_ h⟩
      · exact fin M2 hf (fun p hp => hr p (by omega) hp) 0 (by omega)
      · rw [e3, show n - n = 0 by omega]; decide
    · intro M2 hf hr x3 e3
      rw [show n - i = (n - 1 - i) + 1 by omega, pk_m1] at e3
      have c : ∀ k, k < 92 → M2.1 k = M.1 k := fun k hk => hf.1 k (by omega)
      have hs2 := snR_cg (c 87 (by omega)) (c 88 (by omega)) hs
      have nx : ∀ M3, ffr (n - 1 - i) M2 M3 → (∀ w, w < W → M3.1 (92 + (n - 1 - i)) w = nI (cpX M sn W s n i w)) → Ev LX (d + 3) mX6_costOf 36 [some (.ref 86), some (.int (nI s)), some (.int (nI (n - 1))), some (.int x3), none] [] M3 (fun z M2 => z = some (.int (nI (bsv (cpX M sn W s n (n - 1)) W))) ∧ pfr M M2 ∧ ∀ p, p < n → ∀ w, w < W → M2.1 (92 + p) w = nI (cpX M sn W s n (n - 1 - p) w)) := by
        intro M3 hf3 hr3
        refine gX6_costOf_36 (ih M3 (pfr_ffr (by omega) hf hf3) (fun p h1 h2 w hw => ?_) _ (by rw [e3, show n - (i + 1) = n - 1 - i by omega]))
        by_cases ep : p = n - 1 - i
        · rw [ep, show n - 1 - (n - 1 - i) = i by omega]; exact hr3 w hw
        · rw [hf3.1 (92 + p) (by omega) (by omega) (by omega)]; exact hr p (by omega) h2 w hw
      refine gX6_costOf_14 ⟨fun h => ?_, fun _ => ⟨fun h => ?_, fun h => ?_⟩⟩
      · rw [e3] at h; exact absurd h (nI_pos (by omega))
      · have hi0 : i = 0 := by
          rw [e3] at h
          have := (nI_leI (by omega) (by omega)).mp h
          omega
        subst hi0
        refine ⟨_, by rw [e3]; exact kX6_fillCosts0 (d := d) (p := n - 1 - 0) hs8 (by omega) (by rw [c 3 (by omega)]; exact hW) hW24 hs2, fun zr M3 q => ?_⟩
        rw [q.1]
        refine nx M3 q.2.1 (fun w hw => ?_)
        rw [q.2.2 w hw, c 31 (by omega), c (34 + s) (by omega)]
        rfl
      · have hi0 : i ≠ 0 := by
          rintro rfl
          rw [e3] at h
          exact h (nI_le (by omega) (by omega))
        obtain ⟨k, rfl⟩ : ∃ k, i = k + 1 := ⟨i - 1, by omega⟩
        refine ⟨_, by rw [e3, nI_1]; exact kX6_fillCosts1 (d := d) (p := n - 1 - (k + 1)) (b := n - 1 - (k + 1) + 1) (C := cpX M sn W s n k) hs8 (by omega) (by omega) (by omega) (by rw [c 3 (by omega)]; exact hW) hW24 hs2 (fun w hw => ⟨by rw [hr (n - 1 - (k + 1) + 1) (by omega) (by omega) w hw, show n - 1 - (n - 1 - (k + 1) + 1) = k by omega], hb k (by omega) w hw⟩), fun zr M3 q => ?_⟩
        rw [q.1]
        refine nx M3 q.2.1 (fun w hw => ?_)
        rw [q.2.2 w hw, c 30 (by omega), c 31 (by omega), c (34 + s) (by omega)]
        rfl
  rw [e1]
  exact lp 0 (by omega) M pfr.rf (fun p h1 h2 => absurd h2 (by omega)) _ (by rw [show n - 0 = (n - 1) + 1 by omega, pk_m1])
/-- the costs up to a place -/
def upk (kd se : Nat → Int32) (sn : Nat → Nat) (W : Nat) (row : Nat → Int32) : Nat → Nat → Nat
  | 0 => nx0 se sn (row 0)
  | k + 1 => nx1 kd se sn W (row (k + 1)) (upk kd se sn W row k)
theorem upk_b {kd se : Nat → Int32} {sn : Nat → Nat} {W : Nat} {row : Nat → Int32} (hs : ∀ w, w < W → sn w < FARn → sn w ≤ 99) : ∀ k, ∀ w, w < W → upk kd se sn W row k w = FARn ∨ upk kd se sn W row k w ≤ 102 * (k + 1)
  | 0, w, hw => by
    rw [upk, nx0]
    split
    · rename_i h; have := hs w hw h.2; exact Or.inr (by omega)
    · exact Or.inl rfl
  | k + 1, w, hw => by
    rw [upk, nx1]
    split
    · rename_i h
      split
      · rename_i h2
        have h4 := hs w hw h.2
        have := bsv_sm (b := 102 * (k + 1) + 3) (fun v hv => by
          have := btw_le (kd := kd) (w := w) (v := v)
          rcases upk_b (kd := kd) (se := se) (row := row) hs k v hv with z | z <;> omega) h2
        exact Or.inr (by omega)
      · exact Or.inl rfl
    · exact Or.inl rfl
theorem kX6_costUpTo {s n W p w : Nat} {sn : Nat → Nat} (hs8 : s < 8) (hp : p < 5) (hw : w < W) (hW : M.1 3 5 = nI W) (hW24 : W ≤ 24) (hs : snR M sn W) :
    Cl LX (d + 3) mX6_costUpTo [.ref 86, .int (nI s), .int (nI p), .int (nI w)] M (fun z M2 => z = some (.int (nI (upk (M.1 30) (M.1 31) sn W (M.1 (34 + s)) p w))) ∧ pfr M M2) := by
  have hb : ∀ k, k < 5 → ∀ w, w < W → upk (M.1 30) (M.1 31) sn W (M.1 (34 + s)) k w = FARn ∨ upk (M.1 30) (M.1 31) sn W (M.1 (34 + s)) k w ≤ 1000 := fun k hk w hw => by
    rcases upk_b (kd := M.1 30) (se := M.1 31) (row := M.1 (34 + s)) (snR_99 hs) k w hw with z | z
    · exact Or.inl z
    · exact Or.inr (by omega)
  refine Cl_of rfl (Nat.le_of_ble_eq_true rfl) rfl (gX6_costUpTo_0 ?_)
  have lp : ∀ i, i ≤ p + 1 → ∀ M2, pfr M M2 → (∀ q, q + 1 = i → ∀ w, w < W → M2.1 (92 + q) w = nI (upk (M.1 30) (M.1 31) sn W (M.1 (34 + s)) q w)) → Ev LX (d + 3) mX6_costUpTo 3 [some (.ref 86), some (.int (nI s)), some (.int (nI p)), some (.int (nI w)), some (.int (nI i))] [] M2 (fun z M2 => z = some (.int (nI (upk (M.1 30) (M.1 31) sn W (M.1 (34 + s)) p w))) ∧ pfr M M2) := by
    refine dn ?_ (fun i hi ih => ?_)
    · intro M2 hf hr
      refine gX6_costUpTo_3 ⟨fun _ => ⟨vp_in_nI hp (by omega), vp_in_nI (by omega) (by omega), ?_, hf⟩, fun h => absurd ((nI_ltI (by omega) (by omega)).mpr (by omega)) h⟩
      rw [nI_clamp (by omega), nI_clamp (by omega), hr p rfl w hw]
    · intro M2 hf hr
      have c : ∀ k, k < 92 → M2.1 k = M.1 k := fun k hk => hf.1 k (by omega)
      have hs2 := snR_cg (c 87 (by omega)) (c 88 (by omega)) hs
      refine gX6_costUpTo_3 ⟨fun h => absurd ((nI_ltI (by omega) (by omega)).mp h) (by omega), fun _ => ⟨fun h => ?_, fun h => ?_⟩⟩
      · have hi0 : i = 0 := by
          have := (nI_leI (by omega) (by omega)).mp (show nI i ≤ nI 0 from h)
          omega
        subst hi0
        refine ⟨_, kX6_fillCosts0 (d := d) (p := 0) hs8 (by omega) (by rw [c 3 (by omega)]; exact hW) hW24 hs2, fun zr M3 q => ?_⟩
        rw [q.1]
        refine gX6_costUpTo_29 (ih M3 (pfr_ffr (p := 0) (by omega) hf q.2.1) (fun q1 h1 w hw => ?_))
        obtain rfl : q1 = 0 := by omega
        rw [q.2.2 w hw, c 31 (by omega), c (34 + s) (by omega)]
        rfl
      · have hi0 : i ≠ 0 := by
          rintro rfl
          exact h (Int32.le_refl 0)
        obtain ⟨k, rfl⟩ : ∃ k, i = k + 1 := ⟨i - 1, by omega⟩
        refine ⟨_, by rw [show (1 : Int32) = nI 1 from rfl, pk_sub (by omega)]; exact kX6_fillCosts1 (d := d) (p := k + 1) (b := k) (C := upk (M.1 30) (M.1 31) sn W (M.1 (34 + s)) k) hs8 (by omega) (by omega) (by omega) (by rw [c 3 (by omega)]; exact hW) hW24 hs2 (fun w hw => ⟨hr k rfl w hw, hb k (by omega) w hw⟩), fun zr M3 q => ?_⟩
        rw [q.1]
        refine gX6_costUpTo_29 ?_
        rw [nI_1]
        refine ih M3 (pfr_ffr (p := k + 1) (by omega) hf q.2.1) (fun q1 h1 w hw => ?_)
        obtain rfl : q1 = k + 1 := by omega
        rw [q.2.2 w hw, c 30 (by omega), c 31 (by omega), c (34 + s) (by omega)]
        rfl
  exact lp 0 (by omega) M pfr.rf (fun q h => absurd h (by omega))
end
