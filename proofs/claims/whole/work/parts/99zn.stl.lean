/-! THE MODEL'S PILE AND CODE, AS THE MACHINE HAS THEM -/
section
variable {d : Nat} {N : ev_Mem}
def plR (r : Nat → Int32) : List Nat → Prop
  | [] => True
  | p :: P => r P.length = nI p ∧ plR r P
def okQ : List Nat → Prop
  | [] => True
  | p :: P => (2 ≤ p ∧ p < 50 ∧ P.length + 1 ≤ 8 * cnP (p :: P) + rkN p) ∧ okQ P
theorem rkI_n : ∀ p, p < 50 → rkI (nI p) = nI (rkN p) ∧ rkN p ≤ 7 := by decide +kernel
theorem okQ_len : ∀ {P : List Nat}, okQ P → P.length ≤ 8 * cnP P + 7
  | [], _ => by simp
  | p :: P, h => by
    have := (rkI_n p h.1.2.1).2
    have := h.1.2.2
    simp only [List.length_cons]
    omega
theorem plR_cg {r r2 : Nat → Int32} : ∀ {P : List Nat}, (∀ i, i < P.length → r2 i = r i) → plR r P → plR r2 P
  | [], _, _ => trivial
  | p :: P, e, h => ⟨(e _ (by simp)).trans h.1, plR_cg (fun i hi => e i (by simp only [List.length_cons]; omega)) h.2⟩
/-- the pile, what is open, the code -/
def mPK (N : ev_Mem) (t0 w0 : Nat) (P : List Nat) (K : List (Nat × Nat)) : Prop := N.1 0 17 = nI P.length ∧ plR (N.1 6) P ∧ okQ P ∧ N.1 0 18 = nI (cnP P) ∧ cnP P ≤ 8 ∧ N.1 0 13 = nI t0 ∧ N.1 0 14 = nI (w0 + K.length) ∧ cdM (N.1 4) (t0 + 337) w0 K ∧ w0 + K.length + P.length ≤ 300 ∧ t0 ≤ 2835
def sfP (t0 w0 : Nat) (N N2 : ev_Mem) : Prop := (∀ i, i ≠ 0 → i ≠ 4 → N2.1 i = N.1 i) ∧ (∀ j, j ≠ 14 → j ≠ 17 → j ≠ 18 → N2.1 0 j = N.1 0 j) ∧ (∀ j, j < t0 + 337 + 2 * w0 ∨ t0 + 945 ≤ j → N2.1 4 j = N.1 4 j) ∧ N2.2 = N.2
theorem sfP.rf {t0 w0 : Nat} : sfP t0 w0 N N := ⟨fun _ _ _ => rfl, fun _ _ _ _ => rfl, fun _ _ => rfl, rfl⟩
theorem sfP.tr {t0 w0 : Nat} {N1 N2 : ev_Mem} (h : sfP t0 w0 N N1) (k : sfP t0 w0 N1 N2) : sfP t0 w0 N N2 := ⟨fun i a b => (k.1 i a b).trans (h.1 i a b), fun j a b c => (k.2.1 j a b c).trans (h.2.1 j a b c), fun j a => (k.2.2.1 j a).trans (h.2.2.1 j a), k.2.2.2.trans h.2.2.2⟩
def emM (N : ev_Mem) (a w : Nat) (x y : Int32) : ev_Mem := ev_wr (ev_wr (ev_wr N 4 a x) 4 (a + 1) y) 0 14 (nI (w + 1))
theorem kX11_emit {t0 w : Nat} {x y : Int32} (h1 : N.1 0 13 = nI t0) (h2 : N.1 0 14 = nI w) (hw : w < 304) (ht : t0 ≤ 2835) : Cl LM d mX11_emit [.ref 0, .int x, .int y] N (ev_R none (emM N (t0 + 337 + 2 * w) w x y)) := by
  have e1 : (nI t0 + 337) + (2 * nI w) = nI (t0 + 337 + 2 * w) := by rw [show (337 : Int32) = nI 337 from rfl, show (2 : Int32) = nI 2 from rfl, nI_add, pk_mul, nI_add]
  refine Cl_of rfl (Nat.le_of_ble_eq_true rfl) rfl (gX11_emit_0 ?_)
  rw [h1, h2, e1]
  refine ⟨vp_in_nI (by omega) (by omega), fun M1 e => ?_⟩
  rw [nI_clamp (by omega)] at e
  have a1 : M1.1 0 13 = nI t0 := by rw [e, wr_cell (by omega)]; exact h1
  have a2 : M1.1 0 14 = nI w := by rw [e, wr_cell (by omega)]; exact h2
  rw [a1, a2, e1, nI_1]
  refine ⟨vp_in_nI (by omega) (by omega), fun M2 e2 M3 e3 => ⟨rfl, ?_⟩⟩
  rw [nI_clamp (by omega)] at e2
  have a3 : M2.1 0 14 = nI w := by rw [e2, wr_cell (by omega)]; exact a2
  rw [e3, a3, nI_1, e2, e]
  rfl
theorem cdM_sn {tx tx2 : Nat → Int32} {cb i o v : Nat} {K : List (Nat × Nat)} (h : cdM tx cb i K) (e : ∀ j, j < cb + 2 * (i + K.length) → tx2 j = tx j) (e1 : tx2 (cb + 2 * (i + K.length)) = nI o) (e2 : tx2 (cb + 2 * (i + K.length) + 1) = nI v) : cdM tx2 cb i (K ++ [(o, v)]) := fun j hj => by
  rw [List.length_append, List.length_singleton] at hj
  rw [List.getD_eq_getElem?_getD]
  rcases Nat.lt_or_ge j K.length with z | z
  · have := h j z
    rw [List.getD_eq_getElem?_getD] at this
    rw [List.getElem?_append_left z, e _ (by omega), e _ (by omega)]
    exact this
  · obtain rfl : j = K.length := by omega
    rw [List.getElem?_append_right (Nat.le_refl _), Nat.sub_self]
    exact ⟨e1, e2⟩
/-- one more in the code -/
theorem em_c {t0 w0 o v : Nat} {P : List Nat} {K : List (Nat × Nat)} (h : mPK N t0 w0 P K) (hl : w0 + K.length + P.length < 300) : sfP t0 w0 N (emM N (t0 + 337 + 2 * (w0 + K.length)) (w0 + K.length) (nI o) (nI v)) ∧ mPK (emM N (t0 + 337 + 2 * (w0 + K.length)) (w0 + K.length) (nI o) (nI v)) t0 w0 P (K ++ [(o, v)]) := by
  obtain ⟨h1, h2, h3, h4, h5, h6, h7, h8, h9, h10⟩ := h
  have q : ∀ j, j ≠ 14 → (emM N (t0 + 337 + 2 * (w0 + K.length)) (w0 + K.length) (nI o) (nI v)).1 0 j = N.1 0 j := fun j hj => by unfold emM; rw [wr_ne (by omega), wr_cell (by omega), wr_cell (by omega)]
  have c6 : ∀ i, i ≠ 0 → i ≠ 4 → (emM N (t0 + 337 + 2 * (w0 + K.length)) (w0 + K.length) (nI o) (nI v)).1 i = N.1 i := fun i a b => by unfold emM; rw [wr_cell a, wr_cell b, wr_cell b]
  have c4 : ∀ j, j ≠ t0 + 337 + 2 * (w0 + K.length) → j ≠ t0 + 337 + 2 * (w0 + K.length) + 1 → (emM N (t0 + 337 + 2 * (w0 + K.length)) (w0 + K.length) (nI o) (nI v)).1 4 j = N.1 4 j := fun j a b => by unfold emM; rw [wr_cell (by omega), wr_ne (by omega), wr_ne (by omega)]
  refine ⟨⟨c6, fun j a _ _ => q j a, fun j a => c4 j (by omega) (by omega), rfl⟩, (q 17 (by omega)).trans h1, by rw [c6 6 (by omega) (by omega)]; exact h2, h3, (q 18 (by omega)).trans h4, h5, (q 13 (by omega)).trans h6, ?_, cdM_sn h8 (fun j hj => c4 j (by omega) (by omega)) ?_ ?_, by rw [List.length_append, List.length_singleton]; omega, h10⟩
  · unfold emM
    rw [wr_same, List.length_append, List.length_singleton, Nat.add_assoc]
  · unfold emM
    rw [wr_cell (by omega), wr_ne (by omega), wr_same]
  · unfold emM
    rw [wr_cell (by omega), wr_same]
theorem nI_lt_iff {a b : Nat} (ha : a < 2 ^ 31) (hb : b < 2 ^ 31) : nI a < nI b ↔ a < b := by
  constructor
  · intro h
    rcases Nat.lt_or_ge a b with z | z
    · exact z
    · exact absurd (nI_le z (by omega)) (fun q => by rw [fa_lt] at h; rw [fa_le] at q; omega)
  · exact fun h => nI_lt h (by omega)
/-- what is settled -/
theorem kX11_settle {t0 w0 r : Nat} {K0 : List (Nat × Nat)} {P0 : List Nat} (hr : 1 ≤ r) (hr7 : r ≤ 7) (h0 : mPK N t0 w0 P0 K0) : Cl LM (d + 1) mX11_settle [.ref 0, .int (nI r)] N (fun q N2 => q = none ∧ sfP t0 w0 N N2 ∧ mPK N2 t0 w0 (stl r P0 K0).1 (stl r P0 K0).2) := by
  refine Cl_of rfl (Nat.le_of_ble_eq_true rfl) rfl ?_
  have lp : ∀ (P : List Nat) (K : List (Nat × Nat)) (N1 : ev_Mem), sfP t0 w0 N N1 → mPK N1 t0 w0 P K → stl r P K = stl r P0 K0 → Ev LM (d + 1) mX11_settle 0 [some (.ref 0), some (.int (nI r))] [] N1 (fun q N2 => q = none ∧ sfP t0 w0 N N2 ∧ mPK N2 t0 w0 (stl r P0 K0).1 (stl r P0 K0).2) := by
    intro P
    induction P with
    | nil =>
      intro K N1 hf h e
      refine gX11_settle_0 ⟨fun _ => ⟨rfl, hf, by rw [← e]; exact h⟩, fun z => absurd (show N1.1 0 17 ≤ 0 from by rw [h.1]; decide) z⟩
    | cons p P ih =>
      intro K N1 hf h e
      have h' := h
      obtain ⟨h1, h2, h3, h4, h5, h6, h7, h8, h9, h10⟩ := h
      have hl := okQ_len h3
      simp only [List.length_cons] at h1 hl h9
      obtain ⟨k1, k2⟩ := rkI_n p h3.1.2.1
      have e1 : N1.1 0 17 - 1 = nI P.length := by rw [h1, nI_s1, nl_m1]
      have e6 : N1.1 6 P.length = nI p := h2.1
      refine gX11_settle_0 ⟨fun z => ?_, fun z => ?_⟩
      · rw [h1] at z
        exact absurd z (nI_ge (a := 0) (b := P.length + 1) (by omega) (by omega))
      · rw [e1, nI_clamp (by omega), e6, k1, nI_lt_iff (by omega) (by omega)]
        refine ⟨vp_in_nI (by omega) (by omega), fun z2 => ⟨rfl, hf, ?_⟩, fun z2 N2 e2 => ?_⟩
        · rw [← e, stl_lt (Or.inr z2)]
          exact h'
        · have a17 : N2.1 0 17 = nI P.length := by rw [e2, wr_same]
          have a6 : N2.1 6 = N1.1 6 := by rw [e2, wr_cell (by omega)]
          have a0 : ∀ j, j ≠ 17 → N2.1 0 j = N1.1 0 j := fun j hj => by rw [e2, wr_ne (by omega)]
          have a4 : N2.1 4 = N1.1 4 := by rw [e2, wr_cell (by omega)]
          have f2 : sfP t0 w0 N1 N2 := ⟨fun i a b => by rw [e2, wr_cell a], fun j _ b _ => a0 j b, fun j _ => by rw [a4], by rw [e2]; rfl⟩
          -- the pile without its top; what is open is told behind the emission
          rw [a17, a6, nI_clamp (by omega), e6]
          have hw : N2.1 0 14 = nI (w0 + K.length) := (a0 14 (by omega)).trans h7
          refine ⟨vp_in_nI (by omega) (by omega), _, kX11_emit ((a0 13 (by omega)).trans h6) hw (by omega) h10, fun zr N3 hz => ?_⟩
          obtain ⟨rfl, rfl⟩ := hz
          have c0 : ∀ j, j ≠ 14 → (emM N2 (t0 + 337 + 2 * (w0 + K.length)) (w0 + K.length) (nI p) 0).1 0 j = N2.1 0 j := fun j hj => by unfold emM; rw [wr_ne (by omega), wr_cell (by omega), wr_cell (by omega)]
          have c6 : ∀ i, i ≠ 0 → i ≠ 4 → (emM N2 (t0 + 337 + 2 * (w0 + K.length)) (w0 + K.length) (nI p) 0).1 i = N2.1 i := fun i a b => by unfold emM; rw [wr_cell a, wr_cell b, wr_cell b]
          have c4 : ∀ j, j ≠ t0 + 337 + 2 * (w0 + K.length) → j ≠ t0 + 337 + 2 * (w0 + K.length) + 1 → (emM N2 (t0 + 337 + 2 * (w0 + K.length)) (w0 + K.length) (nI p) 0).1 4 j = N1.1 4 j := fun j a b => by unfold emM; rw [wr_cell (by omega), wr_ne (by omega), wr_ne (by omega), a4]
          have f3 : sfP t0 w0 N2 (emM N2 (t0 + 337 + 2 * (w0 + K.length)) (w0 + K.length) (nI p) 0) := ⟨c6, fun j a _ _ => c0 j a, fun j a => by rw [c4 j (by omega) (by omega), a4], rfl⟩
          have m3 : ∀ N4, (∀ i, i ≠ 0 → N4.1 i = (emM N2 (t0 + 337 + 2 * (w0 + K.length)) (w0 + K.length) (nI p) 0).1 i) → (∀ j, j ≠ 18 → N4.1 0 j = (emM N2 (t0 + 337 + 2 * (w0 + K.length)) (w0 + K.length) (nI p) 0).1 0 j) → N4.1 0 18 = nI (cnP P) → cnP P ≤ 8 → mPK N4 t0 w0 P (K ++ [(p, 0)]) := by
            intro N4 i1 i2 i3 i4
            refine ⟨by rw [i2 17 (by omega), c0 17 (by omega)]; exact a17, ?_, h3.2, i3, i4, by rw [i2 13 (by omega), c0 13 (by omega), a0 13 (by omega)]; exact h6, ?_, cdM_sn h8 (fun j hj => by rw [i1 4 (by omega)]; exact c4 j (by omega) (by omega)) ?_ ?_, by rw [List.length_append, List.length_singleton]; omega, h10⟩
            · rw [i1 6 (by omega), c6 6 (by omega) (by omega), a6]
              exact h2.2
            · rw [i2 14 (by omega)]
              unfold emM
              rw [wr_same, List.length_append, List.length_singleton, Nat.add_assoc]
            · rw [i1 4 (by omega)]
              unfold emM
              rw [wr_cell (by omega), wr_ne (by omega), wr_same]
            · rw [i1 4 (by omega)]
              unfold emM
              rw [wr_cell (by omega), wr_same]
              rfl
          have b18 : (emM N2 (t0 + 337 + 2 * (w0 + K.length)) (w0 + K.length) (nI p) 0).1 0 18 = nI (cnP (p :: P)) := by rw [c0 18 (by omega), a0 18 (by omega)]; exact h4
          have b17 : (emM N2 (t0 + 337 + 2 * (w0 + K.length)) (w0 + K.length) (nI p) 0).1 0 17 = nI P.length := by rw [c0 17 (by omega)]; exact a17
          have b6 : (emM N2 (t0 + 337 + 2 * (w0 + K.length)) (w0 + K.length) (nI p) 0).1 6 P.length = nI p := by rw [c6 6 (by omega) (by omega), a6]; exact e6
          have est : stl r P (K ++ [(p, 0)]) = stl r P0 K0 := by rw [← e, stl_1 (by omega)]
          have p40 : ¬ 40 ≤ p := rk40 (by omega)
          have f23 := hf.tr (f2.tr f3)
          refine gX11_settle_49 ?_
          rw [b17, nI_clamp (by omega), b6, k1]
          have less : ctd p = true → ∀ N4, N4 = ev_wr (emM N2 (t0 + 337 + 2 * (w0 + K.length)) (w0 + K.length) (nI p) 0) 0 18 ((emM N2 (t0 + 337 + 2 * (w0 + K.length)) (w0 + K.length) (nI p) 0).1 0 18 - 1) → Ev LM (d + 1) mX11_settle 0 [some (.ref 0), some (.int (nI r))] [] N4 (fun q N2 => q = none ∧ sfP t0 w0 N N2 ∧ mPK N2 t0 w0 (stl r P0 K0).1 (stl r P0 K0).2) := by
            intro hc N4 e4
            have cp : cnP (p :: P) = cnP P + 1 := by rw [cnP, if_pos hc]; omega
            rw [b18, cp, nI_s1, nl_m1] at e4
            have f4 : sfP t0 w0 (emM N2 (t0 + 337 + 2 * (w0 + K.length)) (w0 + K.length) (nI p) 0) N4 := ⟨fun i a _ => by rw [e4, wr_cell a], fun j _ _ c => by rw [e4, wr_ne (by omega)], fun j _ => by rw [e4, wr_cell (by omega)], by rw [e4]; rfl⟩
            exact ih _ N4 (f23.tr f4) (m3 N4 (fun i hi => by rw [e4, wr_cell hi]) (fun j hj => by rw [e4, wr_ne (by omega)]) (by rw [e4, wr_same]) (by omega)) est
          refine ⟨vp_in_nI (by omega) (by omega), fun z7 => ?_, fun z7 => ⟨vp_in_nI (by omega) (by omega), fun z20 => ?_, fun z20 => ?_⟩⟩
          · have : rkN p = 7 := (nI_eq (b := 7) (by omega) (by omega)).mp z7
            exact less (by unfold ctd; rw [this]; simp)
          · have n7 : rkN p ≠ 7 := fun q => z7 (by rw [q]; rfl)
            have n20 : p ≠ 20 := fun q => z20 (by rw [q]; rfl)
            have hc : ctd p = false := by unfold ctd; simp [p40, n7, n20]
            have cp : cnP (p :: P) = cnP P := by rw [cnP, hc, if_neg (by decide), Nat.zero_add]
            exact ih _ _ f23 (m3 _ (fun _ _ => rfl) (fun _ _ => rfl) (by rw [b18, cp]) (by omega)) est
          · have : p = 20 := (nI_eq (b := 20) (by omega) (by omega)).mp z20
            exact less (by rw [this]; rfl)
  exact lp P0 K0 N sfP.rf h0 rfl
end
