/-! THE CLASS'S READER: its state, what it changes -/
section
variable {d : Nat} {M : ev_Mem}
theorem isT_b {k : Nat} (h : ev_isT k) : 61 ≤ k ∧ k ≤ 76 := by
  unfold ev_isT at h
  omega
def pfz (kt u : Nat) (M M2 : ev_Mem) : Prop := (∀ i, i ≠ 81 → i ≠ kt → i ≠ kt + 1 → M2.1 i = M.1 i) ∧ (∀ j, j < 5 ∨ 7 < j → M2.1 81 j = M.1 81 j) ∧ (∀ j, j ≠ 1 → M2.1 kt j = M.1 kt j) ∧ (∀ j, j < u → M2.1 (kt + 1) j = M.1 (kt + 1) j)
/-- the same where a fault was told -/
def pfw (kt u : Nat) (M M2 : ev_Mem) : Prop := (∀ i, i ≠ 81 → i ≠ kt → i ≠ kt + 1 → M2.1 i = M.1 i) ∧ (∀ j, j < 3 ∨ 7 < j → M2.1 81 j = M.1 81 j) ∧ (∀ j, j ≠ 1 → M2.1 kt j = M.1 kt j) ∧ (∀ j, j < u → M2.1 (kt + 1) j = M.1 (kt + 1) j)
theorem pfz.rf {kt u : Nat} : pfz kt u M M := ⟨fun _ _ _ _ => rfl, fun _ _ => rfl, fun _ _ => rfl, fun _ _ => rfl⟩
theorem pfz.tr {kt u u2 : Nat} {M1 M2 : ev_Mem} (h : pfz kt u M M1) (h2 : pfz kt u2 M1 M2) (hu : u ≤ u2) : pfz kt u M M2 := ⟨fun i a b c => (h2.1 i a b c).trans (h.1 i a b c), fun j a => (h2.2.1 j a).trans (h.2.1 j a), fun j a => (h2.2.2.1 j a).trans (h.2.2.1 j a), fun j a => (h2.2.2.2 j (by omega)).trans (h.2.2.2 j a)⟩
theorem pfz.trw {kt u u2 : Nat} {M1 M2 : ev_Mem} (h : pfz kt u M M1) (h2 : pfw kt u2 M1 M2) (hu : u ≤ u2) : pfw kt u M M2 := ⟨fun i a b c => (h2.1 i a b c).trans (h.1 i a b c), fun j a => (h2.2.1 j a).trans (h.2.1 j (by omega)), fun j a => (h2.2.2.1 j a).trans (h.2.2.1 j a), fun j a => (h2.2.2.2 j (by omega)).trans (h.2.2.2 j a)⟩
theorem pfz_by {kt u : Nat} {M2 : ev_Mem} (hk : ev_isT kt) (h : pfz kt u M M2) : byM M2 = byM M := by
  have := isT_b hk
  exact funext fun i => by unfold byM; rw [h.1 2 (by omega) (by omega) (by omega)]
theorem pfz_av {kt u : Nat} {M2 : ev_Mem} (hk : ev_isT kt) (h : avO M M2) : pfz kt u M M2 := by
  have := isT_b hk
  exact ⟨fun i a _ _ => h.1 i a, fun j a => h.2 j (by omega), fun j _ => by rw [h.1 kt (by omega)], fun j _ => by rw [h.1 (kt + 1) (by omega)]⟩
theorem pfz_fl {kt u : Nat} {f : Int32} (hk : ev_isT kt) : pfw kt u M (flM M f) := by
  have := isT_b hk
  unfold flM
  exact ⟨fun i a _ _ => by rw [wr_cell a, wr_cell a], fun j a => by rw [wr_ne (by omega), wr_ne (by omega)], fun j _ => by rw [wr_cell (by omega), wr_cell (by omega)], fun j _ => by rw [wr_cell (by omega), wr_cell (by omega)]⟩
def rdS (M : ev_Mem) (n kt k s u : Nat) : Prop := tpK M n ∧ tkS M (byM M) n s ∧ s ≤ n ∧ M.1 81 1 = nI kt ∧ ev_isT kt ∧ M.1 kt 1 = nI u ∧ M.1 81 8 = nI k
theorem rd_kt {n kt k s u : Nat} (h : rdS M n kt k s u) : (M.1 81 1).toNatClampNeg = kt ∧ (¬ M.1 81 1 = 0 ∧ ev_isT (M.1 81 1).toNatClampNeg) := by
  obtain ⟨-, -, -, h1, h2, -, -⟩ := h
  have := isT_b h2
  rw [h1, nI_clamp (by omega)]
  exact ⟨rfl, nI_ne0 (by omega) (by omega), h2⟩
theorem rd_tk {n kt k s u : Nat} (h : rdS M n kt k s u) : (∀ i, i < n → byM M i < 256) ∧ n ≤ 300 ∧ s ≤ n ∧ srt (byM M) n s < 256 := ⟨fun i hi => tk_by h.1 hi, h.1.1, h.2.2.1, srt_lt (fun i hi => tk_by h.1 hi)⟩
theorem srt_end {b : Nat → Nat} {n s : Nat} (h : srt b n s ≠ 0) : s < n := by
  rcases Nat.lt_or_ge s n with z | z
  · exact z
  · exact absurd (by unfold srt; rw [if_pos z]) h
theorem adv_c {n kt k s u : Nat} (h : rdS M n kt k s u) (hs : s < n) : Cl LX (d + 1) mX4_advance [.ref 81] M (fun r M2 => r = none ∧ rdS M2 n kt k (nxs (byM M) n s) u ∧ pfz kt u M M2 ∧ s < nxs (byM M) n s) := by
  obtain ⟨h1, h2, h3, h4, h5, h6, h7⟩ := h
  have el := nxt_le (b := byM M) (n := n) (s := s) h3
  have sk := skp_le (b := byM M) (n := n) (p := nxt (byM M) n s) el.2.1
  have kb := isT_b h5
  refine (kX4_advance h1 h2.2.2 el.2.1).mono (fun r M2 hh => ?_)
  obtain ⟨hr, ha, ht⟩ := hh
  refine ⟨hr, ⟨avO_tp ha h1, by rw [avO_by ha]; exact ht, sk.2, (ha.2 1 (by omega)).trans h4, h5, by rw [ha.1 kt (by omega)]; exact h6, (ha.2 8 (by omega)).trans h7⟩, pfz_av h5 ha, by unfold nxs; omega⟩
theorem put_c {n kt k s u : Nat} {x : Int32} (h : rdS M n kt k s u) (hu : u < 300) : puOK M kt ∧ rdS (putM M kt x) n kt k s (u + 1) ∧ pfz kt u M (putM M kt x) ∧ (putM M kt x).1 (kt + 1) u = x := by
  obtain ⟨h1, h2, h3, h4, h5, h6, h7⟩ := h
  have kb := isT_b h5
  have e : putM M kt x = ev_wr (ev_wr M (kt + 1) u x) kt 1 (nI (u + 1)) := by unfold putM; rw [h6, nI_clamp (by omega), nI_1]
  rw [e]
  have hp : pfz kt u M (ev_wr (ev_wr M (kt + 1) u x) kt 1 (nI (u + 1))) := ⟨fun i a b c => by rw [wr_cell b, wr_cell c], fun j a => by rw [wr_cell (by omega), wr_cell (by omega)], fun j a => by rw [wr_ne (by omega), wr_cell (by omega)], fun j a => by rw [wr_cell (by omega), wr_ne (by omega)]⟩
  refine ⟨⟨h5, u, hu, h6⟩, ⟨⟨h1.1, ?_, ?_⟩, ?_, h3, ?_, h5, wr_same, ?_⟩, hp, ?_⟩
  · rw [hp.1 1 (by omega) (by omega) (by omega)]; exact h1.2.1
  · rw [hp.1 2 (by omega) (by omega) (by omega)]; exact h1.2.2
  · rw [pfz_by h5 hp]
    have q : ∀ j, (ev_wr (ev_wr M (kt + 1) u x) kt 1 (nI (u + 1))).1 81 j = M.1 81 j := fun j => by rw [wr_cell (by omega), wr_cell (by omega)]
    exact ⟨(q 5).trans h2.1, (q 6).trans h2.2.1, (q 7).trans h2.2.2⟩
  · rw [wr_cell (by omega), wr_cell (by omega)]; exact h4
  · rw [wr_cell (by omega), wr_cell (by omega)]; exact h7
  · rw [wr_cell (by omega), wr_same]
/-- what reading a part answers -/
def rOK (S : (Nat → Int32) → Nat → Nat → List (Nat × Nat) → Nat → Nat → Prop) (M : ev_Mem) (n kt k s u hm : Nat) (F : Nat → List (Nat × Nat) → Prop) (M2 : ev_Mem) : Prop := ∃ s2 u2 mc h, rdS M2 n kt k s2 u2 ∧ pfz kt u M M2 ∧ u ≤ u2 ∧ u2 + s ≤ u + s2 ∧ h ≤ hm ∧ S (M2.1 (kt + 1)) u u2 mc k h ∧ F s2 mc
def rFL (M : ev_Mem) (kt u : Nat) (G : Nat → Nat → Prop) (M2 : ev_Mem) : Prop := ∃ f s2, 1 ≤ f ∧ f ≤ 8 ∧ s2 ≤ 300 ∧ M2.1 81 3 = nI f ∧ M2.1 81 4 = nI s2 ∧ pfw kt u M M2 ∧ G f s2
def rRs (S : (Nat → Int32) → Nat → Nat → List (Nat × Nat) → Nat → Nat → Prop) (M : ev_Mem) (n kt k s u hm : Nat) (F : Nat → List (Nat × Nat) → Prop) (G : Nat → Nat → Prop) (r : Option Value) (M2 : ev_Mem) : Prop := (r = some (.int 1) ∧ rOK S M n kt k s u hm F M2) ∨ (r = some (.int 0) ∧ rFL M kt u G M2)
theorem fl_c {n kt k s u f : Nat} {G : Nat → Nat → Prop} (h : rdS M n kt k s u) (hf : 1 ≤ f ∧ f ≤ 8) (hg : G f s) : rFL M kt u G (flM M (nI f)) := by
  have t := rd_tk h
  refine ⟨f, s, hf.1, hf.2, by omega, ?_, ?_, pfz_fl h.2.2.2.2.1, hg⟩
  · unfold flM; rw [wr_ne (by omega), wr_same]
  · unfold flM; rw [wr_same]; exact h.2.1.2.1
theorem rFL.up {kt u u0 : Nat} {M0 : ev_Mem} {G G2 : Nat → Nat → Prop} {M2 : ev_Mem} (h : rFL M kt u G M2) (hp : pfz kt u0 M0 M) (hu : u0 ≤ u) (hg : ∀ f s, G f s → G2 f s) : rFL M0 kt u0 G2 M2 := by
  obtain ⟨f, s, h1, h2, h3, h4, h5, h6, h7⟩ := h
  exact ⟨f, s, h1, h2, h3, h4, h5, hp.trw h6 hu, hg f s h7⟩
end
