/-! the class: what each place costs -/
section
variable {d : Nat} {M : ev_Mem}
theorem nI_nm1 {n : Nat} (h : n < 2 ^ 31) : ¬ nI n = -1 := fun z => by
  have := congrArg Int32.toInt z
  rw [nI_toInt h, I_m1] at this
  omega
def snR (M : ev_Mem) (sn : Nat → Nat) (W : Nat) : Prop := ∀ w, w < W → (M.1 87 w = 0 ∧ sn w = FARn) ∨ (¬ M.1 87 w = 0 ∧ M.1 88 w = nI (sn w) ∧ sn w ≤ 99)
def nx0 (se : Nat → Int32) (sn : Nat → Nat) (r : Int32) (w : Nat) : Nat := if se w = r ∧ sn w < FARn then sn w else FARn
def nx1 (kd se : Nat → Int32) (sn : Nat → Nat) (W : Nat) (r : Int32) (C : Nat → Nat) (w : Nat) : Nat := if se w = r ∧ sn w < FARn then (if bsv (fun v => C v + btw kd w v) W < FARn then sn w + bsv (fun v => C v + btw kd w v) W else FARn) else FARn
def frB (M : ev_Mem) (p W : Nat) (x3 r : Int32) (sn V : Nat → Nat) : Prop := (x3 = -1 ∧ V = nx0 (M.1 31) sn r) ∨ ∃ b C, b < 5 ∧ b ≠ p ∧ x3 = nI b ∧ (∀ w, w < W → M.1 (92 + b) w = nI (C w) ∧ (C w = FARn ∨ C w ≤ 1000)) ∧ lwI M 97 (ftn (M.1 30) C) W ∧ lwI M 98 (fot (M.1 30) C) W ∧ V = nx1 (M.1 30) (M.1 31) sn W r C
def cfr (p : Nat) (M M2 : ev_Mem) : Prop := (∀ k, k ≠ 92 + p → M2.1 k = M.1 k) ∧ M2.2 = M.2
theorem bsv_sm {F : Nat → Nat} {W b : Nat} (h : ∀ v, v < W → FARn ≤ F v ∨ F v ≤ b) (hF : bsv F W < FARn) : bsv F W ≤ b := by
  obtain ⟨m, hm, em⟩ := bsv_at hF
  have h1 := bst_lt hm
  rcases h m h1.1 with z | z <;> omega
theorem fill_lp {p W : Nat} {x3 r : Int32} {sn V : Nat → Nat} (hp : p < 5) (hW : M.1 3 5 = nI W) (hW24 : W ≤ 24) (hs : snR M sn W) (hB : frB M p W x3 r sn V) :
    Ev LX (d + 2) mX6_fillCosts 26 [some (.ref 86), none, some (.int (nI p)), some (.int x3), some (.int r), some (.int 0), none] [] M (fun z M2 => z = none ∧ cfr p M M2 ∧ ∀ w, w < W → M2.1 (92 + p) w = nI (V w)) := by
  have F30 : FARn < 2 ^ 29 := by unfold FARn; omega
  have E30 : (1000000 : Int32) = nI FARn := rfl
  have lp : ∀ i, i ≤ W → ∀ M2, cfr p M M2 → (∀ w, w < i → M2.1 (92 + p) w = nI (V w)) → Ev LX (d + 2) mX6_fillCosts 26 [some (.ref 86), none, some (.int (nI p)), some (.int x3), some (.int r), some (.int (nI i)), none] [] M2 (fun z M2 => z = none ∧ cfr p M M2 ∧ ∀ w, w < W → M2.1 (92 + p) w = nI (V w)) := by
    refine dn ?_ (fun i hi ih => ?_)
    · intro M2 hf h1
      refine gX6_fillCosts_26 ⟨fun _ => ⟨rfl, hf, h1⟩, fun h => absurd ?_ h⟩
      rw [hf.1 3 (by omega), hW]; exact nI_le (Nat.le_refl _) (by omega)
    · intro M2 hf h1
      have hv : vp_in (nI i) 24 := vp_in_nI (by omega) (by omega)
      have hvp : vp_in (nI p) 5 := vp_in_nI hp (by omega)
      have go : ∀ M3 (y : Int32), y = nI (V i) → M3 = ev_wr M2 (92 + (nI p).toNatClampNeg) (nI i).toNatClampNeg y → Ev LX (d + 2) mX6_fillCosts 26 [some (.ref 86), none, some (.int (nI p)), some (.int x3), some (.int r), some (.int (nI i + 1)), none] [] M3 (fun z M2 => z = none ∧ cfr p M M2 ∧ ∀ w, w < W → M2.1 (92 + p) w = nI (V w)) := by
        intro M3 y ey e3
        rw [nI_clamp (by omega), nI_clamp (by omega)] at e3
        rw [nI_1]
        refine ih M3 ⟨fun k hk => by rw [e3, wr_cell hk]; exact hf.1 k hk, by rw [e3]; exact hf.2⟩ (fun w hw => ?_)
        rw [e3, wr_row]
        by_cases ew : w = i
        · subst ew; rw [pk_us, ey]
        · rw [pk_un ew]; exact h1 w (by omega)
      have e87 : M2.1 87 (nI i).toNatClampNeg = M.1 87 i := by rw [nI_clamp (by omega), hf.1 87 (by omega)]
      have e31 : M2.1 31 (nI i).toNatClampNeg = M.1 31 i := by rw [nI_clamp (by omega), hf.1 31 (by omega)]
      have e88 : M2.1 88 (nI i).toNatClampNeg = M.1 88 i := by rw [nI_clamp (by omega), hf.1 88 (by omega)]
      have far : ¬ (M.1 31 i = r ∧ sn i < FARn) → imin (1000000 : Int32) (1000000 : Int32) = nI (V i) := by
        intro hn
        have : V i = FARn := by
          rcases hB with ⟨-, eV⟩ | ⟨b, C, -, -, -, -, -, -, eV⟩
          · rw [eV]; exact if_neg hn
          · rw [eV]; exact if_neg hn
        rw [this]; rfl
      refine gX6_fillCosts_26 ⟨fun h => ?_, fun _ => ⟨hv, fun h => ⟨hvp, hv, fun M3 e3 => go M3 _ (far ?_) e3⟩, fun h => ⟨hv, fun h2 => ⟨hvp, hv, fun M3 e3 => go M3 _ (far ?_) e3⟩, fun h2 => ⟨hv, fun h3 => ?_, fun h3 => ?_⟩⟩⟩⟩
      · rw [hf.1 3 (by omega), hW] at h
        exact absurd h (nI_ge (by omega) (by omega))
      · rw [e87] at h
        rcases hs i hi with z | z
        · omega
        · exact absurd h z.1
      · rw [e31] at h2
        exact fun z => h2 z.1
      · rw [e87] at h
        rw [e31] at h2
        obtain ⟨z1, z2, z3⟩ := (hs i hi).resolve_left (fun z => h z.1)
        obtain ⟨b, C, hb, hbp, rfl, hC, l1, l2, eV⟩ := hB.resolve_left (fun z => h3 z.1)
        have hCF : ∀ w, w < W → C w ≤ FARn := fun w hw => by rcases (hC w hw).2 with z | z; omega; unfold FARn; omega
        have c30 : M2.1 30 = M.1 30 := hf.1 30 (by omega)
        refine ⟨vp_in_nI hb (by omega), hv, ?_⟩
        obtain ⟨bb, hbb, eb, hc⟩ := kX6_leastBeside (d := d) (M := M2) (W := W) (w := i) (C := C) hW24 hi hCF (by rw [c30]; exact lwI_cg (hf.1 97 (by omega)) l1) (by rw [c30]; exact lwI_cg (hf.1 98 (by omega)) l2)
        rw [c30] at eb
        refine ⟨_, by
          rw [nI_clamp (show b < 2 ^ 31 by omega), nI_clamp (show i < 2 ^ 31 by omega), hf.1 (92 + b) (by omega), (hC i hi).1]
          exact hc, fun zr zM q => ?_⟩
        obtain ⟨q1, q2⟩ := q
        rw [q1, q2]
        refine gX6_fillCosts_98 (s0 := nI bb) ⟨hvp, hv, fun M3 e3 => go M3 _ ?_ e3⟩
        rw [e88, z2, nI_add, E30, imin_nI (by omega) (by omega), eV]
        congr 1
        unfold nx1
        rw [if_pos ⟨h2, by unfold FARn; omega⟩]
        by_cases hl : bsv (fun v => C v + btw (M.1 30) i v) W < FARn
        · rw [if_pos hl]
          have : bsv (fun v => C v + btw (M.1 30) i v) W ≤ 1003 := bsv_sm (fun v hv => by
            have := btw_le (kd := M.1 30) (w := i) (v := v)
            rcases (hC v hv).2 with z | z <;> omega) hl
          have hF2 : 2000 < FARn := by unfold FARn; omega
          omega
        · rw [if_neg hl]
          have := (bsv_le (f := fun v => C v + btw (M.1 30) i v) (n := W)).1
          omega
      · rw [e87] at h
        rw [e31] at h2
        obtain ⟨z1, z2, z3⟩ := (hs i hi).resolve_left (fun z => h z.1)
        have hz : V = nx0 (M.1 31) sn r := by
          rcases hB with z | ⟨b, C, hb, -, e, -⟩
          · exact z.2
          · rw [h3] at e
            exact absurd e.symm (nI_nm1 (by omega))
        refine gX6_fillCosts_98 ⟨hvp, hv, fun M3 e3 => go M3 _ ?_ e3⟩
        rw [e88, z2, show (0 : Int32) = nI 0 from rfl, nI_add, E30, imin_nI (by omega) (by omega), hz]
        congr 1
        unfold nx0
        rw [if_pos ⟨h2, by unfold FARn; omega⟩]
        have hF2 : 2000 < FARn := by unfold FARn; omega
        omega
  exact lp 0 (by omega) M ⟨fun _ _ => rfl, rfl⟩ (fun w hw => absurd hw (by omega))
def ffr (p : Nat) (M M2 : ev_Mem) : Prop := (∀ k, k ≠ 97 → k ≠ 98 → k ≠ 92 + p → M2.1 k = M.1 k) ∧ M2.2 = M.2
theorem kX6_fillCosts0 {s p W : Nat} {sn : Nat → Nat} (hs8 : s < 8) (hp : p < 5) (hW : M.1 3 5 = nI W) (hW24 : W ≤ 24) (hs : snR M sn W) :
    Cl LX (d + 2) mX6_fillCosts [.ref 86, .int (nI s), .int (nI p), .int (-1)] M (fun z M2 => z = none ∧ ffr p M M2 ∧ ∀ w, w < W → M2.1 (92 + p) w = nI (nx0 (M.1 31) sn (M.1 (34 + s) p) w)) := by
  refine Cl_of rfl (Nat.le_of_ble_eq_true rfl) rfl (gX6_fillCosts_0 ⟨vp_in_nI hs8 (by omega), vp_in_nI hp (by omega), fun v1 e1 => ⟨fun _ => ?_, fun h => absurd rfl h⟩⟩)
  rw [nI_clamp (by omega), nI_clamp (by omega)] at e1
  refine Ev.mono (fill_lp (d := d) hp hW hW24 hs (Or.inl ⟨rfl, rfl⟩)) (fun z M2 q => ⟨q.1, ⟨fun k _ _ hk => q.2.1.1 k hk, q.2.1.2⟩, ?_⟩)
  rw [← e1]
  exact q.2.2
theorem kX6_fillCosts1 {s p b W : Nat} {sn C : Nat → Nat} (hs8 : s < 8) (hp : p < 5) (hb : b < 5) (hbp : b ≠ p) (hW : M.1 3 5 = nI W) (hW24 : W ≤ 24) (hs : snR M sn W) (hC : ∀ w, w < W → M.1 (92 + b) w = nI (C w) ∧ (C w = FARn ∨ C w ≤ 1000)) :
    Cl LX (d + 2) mX6_fillCosts [.ref 86, .int (nI s), .int (nI p), .int (nI b)] M (fun z M2 => z = none ∧ ffr p M M2 ∧ ∀ w, w < W → M2.1 (92 + p) w = nI (nx1 (M.1 30) (M.1 31) sn W (M.1 (34 + s) p) C w)) := by
  refine Cl_of rfl (Nat.le_of_ble_eq_true rfl) rfl (gX6_fillCosts_0 ⟨vp_in_nI hs8 (by omega), vp_in_nI hp (by omega), fun v1 e1 => ⟨fun h => absurd h (nI_nm1 (by omega)), fun _ => ?_⟩⟩)
  rw [nI_clamp (by omega), nI_clamp (by omega)] at e1
  have hCF : ∀ w, w < W → C w ≤ FARn := fun w hw => by rcases (hC w hw).2 with z | z; omega; unfold FARn; omega
  refine ⟨_, kX6_seeCosts (d := d) hb hW hW24 (fun w hw => ⟨(hC w hw).1, hCF w hw⟩), fun zr M1 q => ?_⟩
  obtain ⟨q1, qf, l1, l2⟩ := q
  rw [q1]
  have c : ∀ k, k ≠ 97 → k ≠ 98 → M1.1 k = M.1 k := qf.1
  refine gX6_fillCosts_23 (Ev.mono (fill_lp (d := d) (V := nx1 (M.1 30) (M.1 31) sn W v1 C) hp (by rw [c 3 (by omega) (by omega)]; exact hW) hW24 (sn := sn) ?_ (Or.inr ⟨b, C, hb, hbp, rfl, ?_, ?_, ?_, ?_⟩)) (fun z M2 q => ⟨q.1, ⟨fun k k1 k2 k3 => (q.2.1.1 k k3).trans (c k k1 k2), q.2.1.2.trans qf.2⟩, ?_⟩))
  · unfold snR; rw [c 87 (by omega) (by omega), c 88 (by omega) (by omega)]; exact hs
  · rw [c (92 + b) (by omega) (by omega)]; exact hC
  · rw [c 30 (by omega) (by omega)]; exact l1
  · rw [c 30 (by omega) (by omega)]; exact l2
  · rw [c 30 (by omega) (by omega), c 31 (by omega) (by omega)]
  · rw [← e1]; exact q.2.2
end
