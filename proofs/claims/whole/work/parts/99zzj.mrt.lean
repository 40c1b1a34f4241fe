/-! THE MODEL READS A TEXT; THE CLASS BEGINS A CLAUSE -/
section
variable {d : Nat} {M N : ev_Mem}
theorem tk00 : ∀ c, c < 256 → (nI (tkN c) = 0 ↔ c = 0) := by decide +kernel
def mtR (N : ev_Mem) (n t0 : Nat) (O : (Nat × Nat) ⊕ List CL) (r : Option Value) (N2 : ev_Mem) : Prop := (∃ f s2, O = Sum.inl (f, s2) ∧ 1 ≤ f ∧ f ≤ 8 ∧ r = some (.int (nI f)) ∧ N2.1 0 9 = nI s2 ∧ tfm t0 N N2) ∨ (∃ L s, O = Sum.inr L ∧ r = some (.int 0) ∧ tM N2 n t0 L s ∧ tfm t0 N N2)
theorem mrt_lp {n t0 : Nat} : ∀ (f : Nat) (L : List CL) (s : Nat) (N1 : ev_Mem), L.length + f = 25 → tM N1 n t0 L s → tfm t0 N N1 → Ev LM (d + 12) mX11_readText 43 [some (.ref 0), none] [] N1 (mtR N n t0 (rdT (byN N) n f L s)) := by
  intro f
  induction f with
  | zero =>
    intro L s N1 hf h fr
    obtain ⟨W, -, -, -, -, ⟨-, h24⟩, -⟩ := h
    omega
  | succ f ih =>
    intro L s N1 hf h fr
    have b1 : byN N1 = byN N := funext fun i => by unfold byN; rw [fr.1 5 (by omega) (by omega) (by omega)]
    obtain ⟨W, hm, -⟩ := id h
    have bb := md_b hm
    have h10 : N1.1 0 10 = nI (tkN (srt (byN N1) n s)) := hm.2.1.2.2.1
    refine gX11_readText_43 ?_
    rw [h10, tk00 _ bb.2.2, b1, rdT]
    refine ⟨fun z => Or.inr ⟨L, s, by rw [if_pos z], rfl, h, fr⟩, fun z => ⟨_, kX11_clause h, fun zr N2 hz => ?_⟩⟩
    rw [if_neg z, ← b1]
    rcases hz with ⟨g, s2, e, g1, g2, rfl, h9, f2⟩ | ⟨x, s2, e, rfl, h2, f2⟩
    · exact gX11_readText_54 ⟨fun y => absurd y (nI_ne0 g1 (by omega)), fun _ => Or.inl ⟨g, s2, by rw [e], g1, g2, rfl, h9, fr.tr f2⟩⟩
    · refine gX11_readText_54 ⟨fun _ => ?_, fun y => absurd rfl y⟩
      rw [e, b1]
      exact ih (L ++ [x]) s2 N2 (by rw [List.length_append, List.length_singleton]; omega) h2 (fr.tr f2)
theorem kX11_readText {n T : Nat} (ht : tpN N n) (hT : N.1 1 2 = nI T) (hT4 : T < 4) : Cl LM (d + 12) mX11_readText [.ref 0] N (mtR N n (945 * T) (rdT (byN N) n 25 [] (skp (byN N) n 0))) := by
  refine Cl_of rfl (Nat.le_of_ble_eq_true rfl) rfl (gX11_readText_0 fun M1 e1 => ?_)
  have t1 : M1.1 0 13 = nI (945 * T) := by rw [e1, wr_same, hT, show (945 : Int32) = nI 945 from rfl, pk_mul]
  rw [t1, nI_clamp (by omega)]
  refine ⟨vp_in_nI (by omega) (by omega), fun M2 e2 M3 e3 M4 e4 M5 e5 => ?_⟩
  have c0 : ∀ j, j < 8 ∨ (8 < j ∧ j ≠ 13 ∧ j ≠ 14 ∧ j ≠ 20) → M5.1 0 j = N.1 0 j := fun j a => by rw [e5, wr_ne (by omega), e4, wr_ne (by omega), e3, wr_ne (by omega), e2, wr_cell (by omega), e1, wr_ne (by omega)]
  have c1 : ∀ i, i ≠ 0 → i ≠ 4 → M5.1 i = N.1 i := fun i a b => by rw [e5, wr_cell a, e4, wr_cell a, e3, wr_cell a, e2, wr_cell b, e1, wr_cell a]
  have c4 : ∀ j, j ≠ 945 * T → M5.1 4 j = N.1 4 j := fun j a => by rw [e5, wr_cell (by omega), e4, wr_cell (by omega), e3, wr_cell (by omega), e2, wr_ne (by omega), e1, wr_cell (by omega)]
  have b5 : byN M5 = byN N := funext fun i => by unfold byN; rw [c1 5 (by omega) (by omega)]
  have t5 : tpN M5 n := ⟨ht.1, by rw [c0 5 (by omega)]; exact ht.2.1, by rw [c1 5 (by omega) (by omega)]; exact ht.2.2⟩
  refine ⟨_, kX11_nextToken (d := d + 10) (p := 0) t5 (by rw [e5, wr_same]; rfl) (by omega), fun zr N6 hz => ?_⟩
  obtain ⟨rfl, nv, hk⟩ := hz
  have b6 : byN N6 = byN M5 := nvO_by nv
  have sk := skp_le (b := byN M5) (n := n) (p := 0) (by omega)
  have fr : tfm (945 * T) N N6 := ⟨fun i a b _ => by rw [nv.1 i a, c1 i a b], fun j a => by rw [nv.2 j (by omega), c0 j (by omega)], fun j a => by rw [nv.1 4 (by omega), c4 j (by omega)]⟩
  rw [← b5]
  have := mrt_lp (d := d) (N := N) (n := n) (t0 := 945 * T) 25 [] (skp (byN M5) n 0) N6 rfl ⟨0, ⟨nvO_tp nv t5, by rw [b6]; exact hk, sk.2⟩, ⟨?_, by omega⟩, ⟨?_, by omega⟩, ⟨0, by omega, ?_, fun k hk => ?_⟩, ⟨?_, by simp⟩, fun i hi => absurd hi (by simp)⟩ fr
  · rw [← b5] at this
    exact this
  · rw [nv.2 13 (by omega), e5, wr_ne (by omega), e4, wr_ne (by omega), e3, wr_ne (by omega), e2, wr_cell (by omega)]; exact t1
  · rw [nv.2 14 (by omega), e5, wr_ne (by omega), e4, wr_ne (by omega), e3, wr_same]; rfl
  · rw [nv.2 20 (by omega), e5, wr_ne (by omega), e4, wr_same]; rfl
  · rw [Nat.zero_testBit]; rfl
  · rw [nv.1 4 (by omega), e5, wr_cell (by omega), e4, wr_cell (by omega), e3, wr_cell (by omega), e2, wr_same]; rfl
/-- the class empties a text, begins a clause -/
theorem kX8_empty {k : Nat} (hk : ev_isT k) : Cl LX (d + 1) mX8_empty [.ref k] M (ev_R none (mfl (ev_wr (ev_wr M k 1 0) k 4 0) (k + 4) 3 (-1))) := by
  refine Cl_of rfl (Nat.le_of_ble_eq_true rfl) rfl (gX8_empty_0 hk fun M1 e1 M2 e2 => ⟨_, kJ7_fill (lx_T4 hk) (by omega), fun r M9 q => ?_⟩)
  rw [q.1, q.2, e2, e1]
  exact gX8_empty_18 hk ⟨rfl, rfl⟩
def beO (k c q u : Nat) (M M2 : ev_Mem) : Prop := (∀ i, i ≠ k → i ≠ k + 2 → i ≠ k + 3 → i ≠ k + 4 → M2.1 i = M.1 i) ∧ ((∀ j, j ≠ 4 → M2.1 k j = M.1 k j) ∧ M2.1 k 4 = nI (c + 1)) ∧ ((∀ j, j ≠ c → M2.1 (k + 2) j = M.1 (k + 2) j) ∧ M2.1 (k + 2) c = nI q) ∧ ((∀ j, j ≠ c → M2.1 (k + 3) j = M.1 (k + 3) j) ∧ M2.1 (k + 3) c = nI u) ∧ (∀ j, j ≠ q → M2.1 (k + 4) j = M.1 (k + 4) j) ∧ (q < 3 → M2.1 (k + 4) q = nI u)
theorem kX8_begin {k c q u : Nat} (hk : ev_isT k) (hc : c < 24) (h4 : M.1 k 4 = nI c) (h1 : M.1 k 1 = nI u) (hq : q < 10) : Cl LX d mX8_begin [.ref k, .int (nI q)] M (fun r M2 => r = none ∧ beO k c q u M M2) := by
  have q2 : (2 : Int32) < nI q ↔ 2 < q := nI_lt_iff (a := 2) (b := q) (by omega) (by omega)
  refine Cl_of rfl (Nat.le_of_ble_eq_true rfl) rfl (gX8_begin_0 hk ?_)
  rw [h4, nI_clamp (by omega)]
  refine ⟨fun _ => ⟨vp_in_nI (by omega) (by omega), fun M1 e1 => ?_⟩, fun z => absurd (nI_lt (b := 24) hc (by omega)) z⟩
  have a4 : M1.1 k 4 = nI c := by rw [e1, wr_cell (by omega)]; exact h4
  have a1 : M1.1 k 1 = nI u := by rw [e1, wr_cell (by omega)]; exact h1
  rw [a4, a1, nI_clamp (by omega)]
  refine ⟨vp_in_nI (by omega) (by omega), fun M2 e2 M3 e3 => ?_⟩
  have b4 : M2.1 k 4 = nI c := by rw [e2, wr_cell (by omega)]; exact a4
  rw [b4, nI_1] at e3
  have u3 : M3.1 k 1 = nI u := by rw [e3, wr_ne (by omega), e2, wr_cell (by omega)]; exact a1
  rw [q2]
  refine ⟨fun z => ⟨rfl, fun i x1 x2 x3 x4 => ?_, ⟨fun j x1 => ?_, ?_⟩, ⟨fun j x1 => ?_, ?_⟩, ⟨fun j x1 => ?_, ?_⟩, fun j x1 => ?_, fun y => by omega⟩, fun z => ?_⟩
  · rw [e3, wr_cell (by omega), e2, wr_cell (by omega), e1, wr_cell (by omega)]
  · rw [e3, wr_ne (by omega), e2, wr_cell (by omega), e1, wr_cell (by omega)]
  · rw [e3, wr_same]
  · rw [e3, wr_cell (by omega), e2, wr_cell (by omega), e1, wr_ne (by omega)]
  · rw [e3, wr_cell (by omega), e2, wr_cell (by omega), e1, wr_same]
  · rw [e3, wr_cell (by omega), e2, wr_ne (by omega), e1, wr_cell (by omega)]
  · rw [e3, wr_cell (by omega), e2, wr_same]
  · rw [e3, wr_cell (by omega), e2, wr_cell (by omega), e1, wr_cell (by omega)]
  · rw [u3, nI_clamp (by omega)]
    refine ⟨vp_in_nI (by omega) (by omega), fun M4 e4 => ⟨rfl, fun i x1 x2 x3 x4 => ?_, ⟨fun j x1 => ?_, ?_⟩, ⟨fun j x1 => ?_, ?_⟩, ⟨fun j x1 => ?_, ?_⟩, fun j x1 => ?_, fun y => ?_⟩⟩
    · rw [e4, wr_cell (by omega), e3, wr_cell (by omega), e2, wr_cell (by omega), e1, wr_cell (by omega)]
    · rw [e4, wr_cell (by omega), e3, wr_ne (by omega), e2, wr_cell (by omega), e1, wr_cell (by omega)]
    · rw [e4, wr_cell (by omega), e3, wr_same]
    · rw [e4, wr_cell (by omega), e3, wr_cell (by omega), e2, wr_cell (by omega), e1, wr_ne (by omega)]
    · rw [e4, wr_cell (by omega), e3, wr_cell (by omega), e2, wr_cell (by omega), e1, wr_same]
    · rw [e4, wr_cell (by omega), e3, wr_cell (by omega), e2, wr_ne (by omega), e1, wr_cell (by omega)]
    · rw [e4, wr_cell (by omega), e3, wr_cell (by omega), e2, wr_same]
    · rw [e4, wr_ne (by omega), e3, wr_cell (by omega), e2, wr_cell (by omega), e1, wr_cell (by omega)]
    · rw [e4, wr_same]
end
