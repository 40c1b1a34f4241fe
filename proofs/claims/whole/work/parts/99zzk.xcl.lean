/-! THE CLASS READS A CLAUSE -/
section
variable {d : Nat} {M : ev_Mem}
def rdQ (M : ev_Mem) (n kt s u : Nat) : Prop := tpK M n ∧ tkS M (byM M) n s ∧ s ≤ n ∧ M.1 81 1 = nI kt ∧ ev_isT kt ∧ M.1 kt 1 = nI u
/-- a clause as the class keeps it -/
def ctX (c : Nat → Int32) (st u q : Nat) (vs : List Nat) (K : List (Nat × Nat)) : Prop := (q < 3 → ∃ v h, h ≤ 64 ∧ SV c st v K q h ∧ v < u ∧ c v = 0) ∧ (3 ≤ q → st + (ddC q vs).length ≤ u ∧ ∀ i, i < (ddC q vs).length → c (st + i) = (ddC q vs).getD i 0)
theorem ctX_cg {c c2 : Nat → Int32} {st u u2 q : Nat} {vs : List Nat} {K : List (Nat × Nat)} (hu : u ≤ u2) (e : ∀ j, j < u → c2 j = c j) (h : ctX c st u q vs K) : ctX c2 st u2 q vs K := by
  refine ⟨fun z => ?_, fun z => ?_⟩
  · obtain ⟨v, hh, a1, a2, a3, a4⟩ := h.1 z
    exact ⟨v, hh, a1, a2.cg (fun i _ b => e i (by omega)), by omega, by rw [e v a3]; exact a4⟩
  · obtain ⟨a1, a2⟩ := h.2 z
    exact ⟨by omega, fun i hi => by rw [e (st + i) (by omega)]; exact a2 i hi⟩
def lsX (M : ev_Mem) (kt u : Nat) (L : List CL) : Prop := ∀ i, i < L.length → ∃ st, st < 300 ∧ M.1 (kt + 2) i = nI (gl L i).1 ∧ M.1 (kt + 3) i = nI st ∧ ctX (M.1 (kt + 1)) st u (gl L i).1 (gl L i).2.1 (gl L i).2.2
def lwX (M : ev_Mem) (kt : Nat) (L : List CL) : Prop := ∀ k, k < 3 → (hsK L k = false → M.1 (kt + 4) k = -1) ∧ ∀ i, i < L.length → (gl L i).1 = k → M.1 (kt + 4) k = M.1 (kt + 3) i
/-- the class behind the clauses L, at the token s -/
def tX (M : ev_Mem) (n kt : Nat) (L : List CL) (s : Nat) : Prop := ∃ u, rdQ M n kt s u ∧ u ≤ s ∧ (M.1 kt 4 = nI L.length ∧ L.length ≤ 24) ∧ lsX M kt u L ∧ lwX M kt L
def cfx (kt : Nat) (M M2 : ev_Mem) : Prop := (∀ i, i ≠ 81 → i < kt ∨ kt + 5 ≤ i → M2.1 i = M.1 i) ∧ ∀ j, j < 3 → M2.1 81 j = M.1 81 j
theorem cfx.rf {kt : Nat} : cfx kt M M := ⟨fun _ _ _ => rfl, fun _ _ => rfl⟩
theorem cfx.tr {kt : Nat} {M1 M2 : ev_Mem} (h : cfx kt M M1) (k : cfx kt M1 M2) : cfx kt M M2 := ⟨fun i a b => (k.1 i a b).trans (h.1 i a b), fun j a => (k.2 j a).trans (h.2 j a)⟩
theorem cfx_by {kt : Nat} {M2 : ev_Mem} (hk : ev_isT kt) (h : cfx kt M M2) : byM M2 = byM M := by
  have := isT_b hk
  exact funext fun i => by unfold byM; rw [h.1 2 (by omega) (by omega)]
theorem cfx_w {kt u : Nat} {M2 : ev_Mem} (h : pfw kt u M M2) : cfx kt M M2 := ⟨fun i a b => h.1 i a (by omega) (by omega), fun j a => h.2.1 j (by omega)⟩
theorem cfx_fl {kt : Nat} {f : Int32} : cfx kt M (flM M f) := by
  unfold flM
  exact ⟨fun i a _ => by rw [wr_cell a, wr_cell a], fun j a => by rw [wr_ne (by omega), wr_ne (by omega)]⟩
/-- what reading a clause's body leaves as it was -/
def cfz (kt u : Nat) (M M2 : ev_Mem) : Prop := (∀ i, i ≠ 81 → i ≠ kt → i ≠ kt + 1 → M2.1 i = M.1 i) ∧ (∀ j, j < 5 → M2.1 81 j = M.1 81 j) ∧ (∀ j, j ≠ 1 → M2.1 kt j = M.1 kt j) ∧ (∀ j, j < u → M2.1 (kt + 1) j = M.1 (kt + 1) j)
theorem cfz_p {kt u : Nat} {M2 : ev_Mem} (h : pfz kt u M M2) : cfz kt u M M2 := ⟨h.1, fun j a => h.2.1 j (by omega), h.2.2.1, h.2.2.2⟩
theorem cfz.tr {kt u u2 : Nat} {M1 M2 : ev_Mem} (h : cfz kt u M M1) (k : cfz kt u2 M1 M2) (hu : u ≤ u2) : cfz kt u M M2 := ⟨fun i a b c => (k.1 i a b c).trans (h.1 i a b c), fun j a => (k.2.1 j a).trans (h.2.1 j a), fun j a => (k.2.2.1 j a).trans (h.2.2.1 j a), fun j a => (k.2.2.2 j (by omega)).trans (h.2.2.2 j a)⟩
theorem cfz_8 {kt u : Nat} {v : Int32} (hk : ev_isT kt) : cfz kt u M (ev_wr M 81 8 v) := by
  have := isT_b hk
  exact ⟨fun i a _ _ => wr_cell a, fun j a => wr_ne (by omega), fun j _ => by rw [wr_cell (by omega)], fun j _ => by rw [wr_cell (by omega)]⟩
theorem cfx_z {kt u : Nat} {M2 : ev_Mem} (h : cfz kt u M M2) : cfx kt M M2 := ⟨fun i a b => h.1 i a (by omega) (by omega), fun j a => h.2.1 j (by omega)⟩
theorem adv_q {n kt s u : Nat} (h : rdQ M n kt s u) (hs : s < n) : Cl LX (d + 1) mX4_advance [.ref 81] M (fun r M2 => r = none ∧ rdQ M2 n kt (nxs (byM M) n s) u ∧ pfz kt u M M2) := by
  obtain ⟨h1, h2, h3, h4, h5, h6⟩ := h
  have el := nxt_le (b := byM M) (n := n) (s := s) h3
  have sk := skp_le (b := byM M) (n := n) (p := nxt (byM M) n s) el.2.1
  have kb := isT_b h5
  refine (kX4_advance h1 h2.2.2 el.2.1).mono (fun r M2 hh => ?_)
  obtain ⟨hr, ha, ht⟩ := hh
  exact ⟨hr, ⟨avO_tp ha h1, by rw [avO_by ha]; exact ht, sk.2, (ha.2 1 (by omega)).trans h4, h5, by rw [ha.1 kt (by omega)]; exact h6⟩, pfz_av h5 ha⟩
def bRx (M : ev_Mem) (n kt u q : Nat) (O : BR) (v : Int32) (M2 : ev_Mem) : Prop := (∃ f s2, O = Sum.inl (f, s2) ∧ 1 ≤ f ∧ f ≤ 8 ∧ v = 0 ∧ M2.1 81 3 = nI f ∧ M2.1 81 4 = nI s2 ∧ cfx kt M M2) ∨ (∃ vs K s2 u2, O = Sum.inr ((vs, K), s2) ∧ v = 1 ∧ rdS M2 n kt q s2 u2 ∧ cfz kt u M M2 ∧ u ≤ u2 ∧ u2 ≤ s2 ∧ ctX (M2.1 (kt + 1)) u u2 q vs K)
/-- a law or a deed -/
theorem xcl_b {n kt s u q : Nat} {Q : Option Value → ev_Mem → Prop} (h : rdQ M n kt s u) (hus : u + 3 ≤ s) (hq : q ≤ 9) (H : ∀ v M2, bRx M n kt u q (bdR (byM M) n q s) v M2 → Ev LX (d + 80) mX4_readClause 106 [some (.ref 81), none, none, none] [.int v] M2 Q) : Ev LX (d + 80) mX4_readClause 67 [some (.ref 81), none, some (.int (nI q)), none] [] M Q := by
  obtain ⟨h1, h2, h3, h4, h5, h6⟩ := h
  have kb := isT_b h5
  have n3 := h1.1
  have q2 : (2 : Int32) < nI q ↔ 2 < q := nI_lt_iff (a := 2) (b := q) (by omega) (by omega)
  refine gX4_readClause_67 fun M1 e1 => ?_
  have c1 : cfz kt u M M1 := by rw [e1]; exact cfz_8 h5
  have b1 : byM M1 = byM M := cfx_by h5 (cfx_z c1)
  have f8 : ∀ j, j ≠ 8 → M1.1 81 j = M.1 81 j := fun j a => by rw [e1, wr_ne (by omega)]
  have r1 : rdS M1 n kt q s u := by
    refine ⟨⟨h1.1, ?_, ?_⟩, ?_, h3, (f8 1 (by omega)).trans h4, h5, ?_, by rw [e1, wr_same]⟩
    · rw [c1.1 1 (by omega) (by omega) (by omega)]; exact h1.2.1
    · rw [c1.1 2 (by omega) (by omega) (by omega)]; exact h1.2.2
    · rw [b1]; exact ⟨(f8 5 (by omega)).trans h2.1, (f8 6 (by omega)).trans h2.2.1, (f8 7 (by omega)).trans h2.2.2⟩
    · rw [e1, wr_cell (by omega)]; exact h6
  rw [q2]
  refine ⟨fun z => ?_, fun z => ?_⟩
  · have e : bdR (byM M) n q s = bdD (deed (byM M) n q s) := if_neg (by omega)
    rw [e] at H
    refine ⟨_, kX4_readDeed (d := d + 70) r1 hus (by omega), fun zr M2 hz => ?_⟩
    rw [b1] at hz
    rcases hz with ⟨vs, s2, e2, rfl, o1, o2, o3, o4⟩ | ⟨f, s2, e2, rfl, g1, g2, g3, g4, g5, g6⟩
    · refine H 1 M2 (Or.inr ⟨vs, [], s2, _, by rw [e2]; rfl, rfl, o1, c1.tr (cfz_p o2) (Nat.le_refl _), by omega, by omega, fun y => by omega, fun _ => ⟨Nat.le_refl _, o4⟩⟩)
    · exact H 0 M2 (Or.inl ⟨f, s2, by rw [e2]; rfl, g1, g2, rfl, g4, g5, (cfx_z c1).tr (cfx_w g6)⟩)
  · have q3 : q < 3 := by omega
    have e : bdR (byM M) n q s = bdS (smR (byM M) n q s) := if_pos q3
    rw [e] at H
    have nn : ∀ s, nc (byM M) n s [] := fun s _ => rfl
    refine ⟨_, sum_rd (d + 79) (by omega) M1 n kt q s u r1 (by omega) q3, fun zr M2 hz => ?_⟩
    rw [b1] at hz
    rcases hz with ⟨rfl, s2, u2, mc, hh, r2, p2, g1, g2, g3, g4, hns, G⟩ | ⟨rfl, f, s2, g1, g2, g3, g4, g5, g6, G⟩
    · have t2 := rd_tk r2
      rw [smR_e (sum_top (G [] rfl (Or.inl rfl) (nn s)) hns)] at H
      refine gX4_readClause_82 ⟨fun z => absurd z (by decide), fun _ => ?_⟩
      have k2 := rd_kt r2
      obtain ⟨o1, o2, o3, o4⟩ := put_c (x := 0) r2 (by omega)
      refine ⟨_, kX4_putOp (d := d + 78) (x := 0) r2 (by omega), fun zr M3 hz => ?_⟩
      rw [hz.1, hz.2]
      refine gX4_readClause_90 ⟨fun z => absurd z (by decide), fun _ => ?_⟩
      refine H 1 _ (Or.inr ⟨[], mc, s2, u2 + 1, rfl, rfl, o2, (c1.tr (cfz_p p2) (Nat.le_refl _)).tr (cfz_p o3) g1, by omega, by omega, fun _ => ⟨u2, hh, by omega, g4.cg (fun i _ b => o3.2.2.2 i b), by omega, o4⟩, fun y => by omega⟩)
    · rw [smR_e (G [] rfl (Or.inl rfl) (nn s) [])] at H
      refine gX4_readClause_82 ⟨fun _ => ?_, fun z => absurd rfl z⟩
      exact H 0 M2 (Or.inl ⟨f, s2, rfl, g1, g2, rfl, g4, g5, (cfx_z c1).tr (cfx_w g6)⟩)
end
