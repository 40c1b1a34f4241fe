/-! THE MODEL READS A LAW'S CLAUSE, AND ANY BODY -/
section
variable {d : Nat} {N : ev_Mem}
theorem ddM_cg {q x : Nat} {tx tx2 : Nat → Int32} {vs : List Nat} (hl : vs.length ≤ 12) (e : ∀ j, x < j → j < x + 14 → tx2 j = tx j) (h : ddM q tx x vs) : ddM q tx2 x vs := by
  obtain ⟨h3, h4, h5, h6, h7⟩ := h
  refine ⟨fun z => ?_, fun z => ?_, fun z => ?_, fun z => ?_, fun z => ?_⟩
  · obtain ⟨ls, kd, se, st, rfl, a1, a2, ⟨a3, a4⟩, ⟨a5, a6⟩, a7, a8⟩ := h3 z
    simp only [List.length_append, List.length_cons, List.length_nil] at hl
    refine ⟨ls, kd, se, st, rfl, ?_, fun i hi => ?_, ⟨?_, a4⟩, ⟨?_, a6⟩, ?_, a8⟩
    · rw [e (x + 4) (by omega) (by omega)]; exact a1
    · rw [e (x + 5 + i) (by omega) (by omega)]; exact a2 i hi
    · rw [e (x + 1) (by omega) (by omega)]; exact a3
    · rw [e (x + 2) (by omega) (by omega)]; exact a5
    · rw [e (x + 3) (by omega) (by omega)]; exact a7
  · refine ⟨?_, fun i hi => ?_⟩
    · rw [e (x + 1) (by omega) (by omega)]; exact (h4 z).1
    · rcases Nat.lt_or_ge (x + 2 + i) (x + 14) with y | y
      · rw [e (x + 2 + i) (by omega) y]; exact (h4 z).2 i hi
      · omega
  · obtain ⟨a, c, l, rfl, a1, a2, a3, a4⟩ := h5 z
    refine ⟨a, c, l, rfl, ?_, ?_, ?_, a4⟩
    · rw [e (x + 2) (by omega) (by omega)]; exact a1
    · rw [e (x + 4) (by omega) (by omega)]; exact a2
    · rw [e (x + 5) (by omega) (by omega)]; exact a3
  · obtain ⟨a, rfl, a1⟩ := h6 z
    exact ⟨a, rfl, by rw [e (x + 2) (by omega) (by omega)]; exact a1⟩
  · obtain ⟨a, rfl, a1⟩ := h7 z
    exact ⟨a, rfl, by rw [e (x + 1) (by omega) (by omega)]; exact a1⟩
/-- what a clause's body leaves as it was -/
def lfm (t0 w0 x : Nat) (N N2 : ev_Mem) : Prop := (∀ i, i ≠ 0 → i ≠ 4 → i ≠ 6 → N2.1 i = N.1 i) ∧ (∀ j, j < 8 ∨ j = 13 ∨ j = 15 ∨ 19 < j → N2.1 0 j = N.1 0 j) ∧ (∀ j, j ≤ x ∨ x + 14 ≤ j → j < t0 + 337 + 2 * w0 ∨ t0 + 945 ≤ j → N2.1 4 j = N.1 4 j)
/-- a clause as the model keeps it -/
def ctM (tx : Nat → Int32) (t0 x q : Nat) (vs : List Nat) (K : List (Nat × Nat)) (w : Nat) : Prop := (q < 3 → cdM tx (t0 + 337) w K ∧ tx (x + 1) = nI w ∧ tx (x + 2) = nI (w + K.length)) ∧ (3 ≤ q → ddM q tx x vs ∧ okv q vs)
theorem ctM_cg {tx tx2 : Nat → Int32} {t0 x q w : Nat} {vs : List Nat} {K : List (Nat × Nat)} (h1 : ∀ j, x < j → j < x + 14 → tx2 j = tx j) (h2 : ∀ j, t0 + 337 + 2 * w ≤ j → j < t0 + 337 + 2 * (w + K.length) → tx2 j = tx j) (h : ctM tx t0 x q vs K w) : ctM tx2 t0 x q vs K w := by
  refine ⟨fun z => ⟨fun j hj => ?_, ?_, ?_⟩, fun z => ⟨ddM_cg (h.2 z).2.1 h1 (h.2 z).1, (h.2 z).2⟩⟩
  · rw [h2 (t0 + 337 + 2 * (w + j)) (by omega) (by omega), h2 (t0 + 337 + 2 * (w + j) + 1) (by omega) (by omega)]
    exact (h.1 z).1 j hj
  · rw [h1 (x + 1) (by omega) (by omega)]; exact (h.1 z).2.1
  · rw [h1 (x + 2) (by omega) (by omega)]; exact (h.1 z).2.2
def bRm (N : ev_Mem) (n t0 w0 q x : Nat) (O : BR) (r : Option Value) (N2 : ev_Mem) : Prop := (∃ f s2, O = Sum.inl (f, s2) ∧ 1 ≤ f ∧ f ≤ 8 ∧ r = some (.int (nI f)) ∧ N2.1 0 9 = nI s2 ∧ lfm t0 w0 x N N2) ∨ (∃ vs K s2, O = Sum.inr ((vs, K), s2) ∧ r = some (.int 0) ∧ mdS N2 n s2 ∧ lfm t0 w0 x N N2 ∧ N2.1 0 14 = nI (w0 + K.length) ∧ w0 + K.length ≤ s2 ∧ ctM (N2.1 4) t0 x q vs K w0)
theorem lfm_d {t0 w0 x : Nat} {N2 : ev_Mem} (h : mfd (x + 1) (x + 14) N N2) : lfm t0 w0 x N N2 := ⟨fun i a b _ => h.1 i a b, fun j a => h.2.1 j (by omega), fun j a _ => h.2.2 j (by omega)⟩
theorem bod_d {n s x q t0 w0 : Nat} (h : mdS N n s) (hx : x < 3600) (hq : 3 ≤ q ∧ q ≤ 9) (h14 : N.1 0 14 = nI w0) (hw : w0 ≤ s) : Cl LM (d + 5) mX11_body [.ref 0, .int (nI q), .int (nI x)] N (bRm N n t0 w0 q x (bdR (byN N) n q s)) := by
  refine (kX11_body h hx hq).mono (fun r N2 hz => ?_)
  have e : bdR (byN N) n q s = bdD (deed (byN N) n q s) := if_neg (by omega)
  rw [e]
  rcases hz with ⟨f, s2, e1, g1, g2, rfl, m1, f1⟩ | ⟨vs, s2, e1, rfl, m1, f1, c1⟩
  · exact Or.inl ⟨f, s2, by rw [e1]; rfl, g1, g2, rfl, m1.2.1.1, lfm_d f1⟩
  · obtain ⟨o1, o2⟩ := deed_ok e1 hq
    refine Or.inr ⟨vs, [], s2, by rw [e1]; rfl, rfl, m1, lfm_d f1, ?_, ?_, fun z => by omega, fun _ => ⟨c1, o1⟩⟩
    · rw [f1.2.1 14 (by omega)]; exact h14
    · show w0 + 0 ≤ s2
      omega
theorem kX11_lawClause {n s x q t0 w0 : Nat} (h : mdS N n s) (hx : t0 < x ∧ x + 14 ≤ t0 + 337) (ht0 : t0 ≤ 2835) (hq : q < 3) (h13 : N.1 0 13 = nI t0) (h14 : N.1 0 14 = nI w0) (hw : w0 ≤ s) (h15 : N.1 0 15 = nI q) : Cl LM (d + 9) mX11_lawClause [.ref 0, .int (nI x)] N (bRm N n t0 w0 q x (bdR (byN N) n q s)) := by
  have e : bdR (byN N) n q s = bdS (smR (byN N) n q s) := if_pos hq
  have n3 := h.1.1
  rw [e]
  refine Cl_of rfl (Nat.le_of_ble_eq_true rfl) rfl (gX11_lawClause_0 ?_)
  rw [nI_1]
  refine ⟨vp_in_nI (by omega) (by omega), fun N1 e1 => ?_⟩
  rw [nI_clamp (by omega), h14] at e1
  have m1 : mdS N1 n s := by rw [e1]; exact md_w h
  have b1 : byN N1 = byN N := by rw [e1]; exact mfd_by mfd_w
  have f0 : ∀ j, N1.1 0 j = N.1 0 j := fun j => by rw [e1, wr_cell (by omega)]
  obtain ⟨R, hR, hC⟩ := kX11_summed (d := d) (t0 := t0) (w0 := w0) (k := q) m1.1 m1.2.1 m1.2.2 ((f0 13).trans h13) ht0 ((f0 14).trans h14) hw ((f0 15).trans h15)
  rw [b1] at hR
  rw [smR_e hR]
  refine ⟨_, hC, fun zr N2 hz => ?_⟩
  have fr : gfr t0 w0 N1 N2 → ∀ v, lfm t0 w0 x N (ev_wr N2 4 (x + 2) v) := fun g v => ⟨fun i a b c => by rw [wr_cell b, g.1 i a b c, e1, wr_cell b], fun j a => by rw [wr_cell (by omega), g.2.1 j (by omega), f0], fun j a c => by rw [wr_ne (by omega), g.2.2 j (by omega), e1, wr_ne (by omega)]⟩
  rcases hz with ⟨f, s2, rfl, g1, g2, rfl, hg, h9⟩ | ⟨s2, K, rfl, rfl, hS⟩
  · refine gX11_lawClause_16 ?_
    rw [show nI x + 2 = nI (x + 2) from nI_add x 2, nI_clamp (by omega)]
    refine ⟨vp_in_nI (by omega) (by omega), fun N3 e3 => Or.inl ⟨f, s2, rfl, g1, g2, rfl, ?_, ?_⟩⟩
    · rw [e3, wr_cell (by omega)]; exact h9
    · rw [e3]; exact fr hg _
  · obtain ⟨hg, ⟨t1, t2⟩, k1, k2, pk, k15, kl⟩ := hS
    obtain ⟨-, -, -, -, -, q13, q14, qc, -, -⟩ := pk
    refine gX11_lawClause_16 ?_
    rw [show nI x + 2 = nI (x + 2) from nI_add x 2, nI_clamp (by omega), q14]
    refine ⟨vp_in_nI (by omega) (by omega), fun N3 e3 => Or.inr ⟨[], K, s2, rfl, rfl, ?_, ?_, ?_, ?_, fun _ => ⟨fun j hj => ?_, ?_, ?_⟩, fun z => by omega⟩⟩
    · rw [e3]
      refine md_w ⟨t2, ?_, k2⟩
      rw [g_by hg]
      exact k1
    · rw [e3]; exact fr hg _
    · rw [e3, wr_cell (by omega)]; exact q14
    · simp only [List.length_nil] at kl
      omega
    · rw [e3, wr_ne (by omega), wr_ne (by omega)]
      exact qc j hj
    · rw [e3, wr_ne (by omega), hg.2.2 (x + 1) (by omega), e1, wr_same]
    · rw [e3, wr_same]
theorem bod_m {n s x q t0 w0 : Nat} (h : mdS N n s) (hx : t0 < x ∧ x + 14 ≤ t0 + 337) (ht0 : t0 ≤ 2835) (hq : q ≤ 9) (h13 : N.1 0 13 = nI t0) (h14 : N.1 0 14 = nI w0) (hw : w0 ≤ s) (h15 : N.1 0 15 = nI q) : Cl LM (d + 10) mX11_body [.ref 0, .int (nI q), .int (nI x)] N (bRm N n t0 w0 q x (bdR (byN N) n q s)) := by
  rcases Nat.lt_or_ge q 3 with q3 | q3
  · have nn : ∀ c, c < 256 → 3 ≤ c → ¬ nI q = nI c := fun c hc hc3 z => by
      have := (nI_eq (by omega) (by omega)).mp z
      omega
    refine Cl_of rfl (Nat.le_of_ble_eq_true rfl) rfl (gX11_body_0 ⟨fun e => absurd e (nn 3 (by omega) (by omega)), fun e => absurd e (nn 4 (by omega) (by omega)), fun e => absurd e (nn 5 (by omega) (by omega)), fun e => absurd e (nn 6 (by omega) (by omega)), fun e => absurd e (nn 7 (by omega) (by omega)), fun e => absurd e (nn 8 (by omega) (by omega)), fun e => absurd e (nn 9 (by omega) (by omega)), fun _ => ⟨_, kX11_lawClause h hx ht0 q3 h13 h14 hw h15, fun zr zM hz => ?_⟩⟩)
    have hv : ∃ v : Int32, zr = some (.int v) := by
      rcases hz with ⟨f, s2, _, _, _, e, _⟩ | ⟨vs, K, s2, _, e, _⟩
      · exact ⟨_, e⟩
      · exact ⟨_, e⟩
    obtain ⟨v, rfl⟩ := hv
    exact gX11_body_109 hz
  · exact bod_d (d := d + 5) h (by omega) ⟨q3, hq⟩ h14 hw
end
