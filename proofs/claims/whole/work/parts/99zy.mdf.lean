/-! DEEDS AS THE MODEL READS THEM: numbers -/
section
variable {d : Nat} {N : ev_Mem}
def mdS (N : ev_Mem) (n s : Nat) : Prop := tpN N n ∧ mkS N (byN N) n s ∧ s ≤ n
def mfd (a c : Nat) (N N2 : ev_Mem) : Prop := (∀ i, i ≠ 0 → i ≠ 4 → N2.1 i = N.1 i) ∧ (∀ j, j < 8 ∨ 11 < j → N2.1 0 j = N.1 0 j) ∧ (∀ j, j < a ∨ c ≤ j → N2.1 4 j = N.1 4 j)
theorem mfd.rf {a c : Nat} : mfd a c N N := ⟨fun _ _ _ => rfl, fun _ _ => rfl, fun _ _ => rfl⟩
theorem mfd.tr {a c : Nat} {N1 N2 : ev_Mem} (h : mfd a c N N1) (k : mfd a c N1 N2) : mfd a c N N2 := ⟨fun i x y => (k.1 i x y).trans (h.1 i x y), fun j x => (k.2.1 j x).trans (h.2.1 j x), fun j x => (k.2.2 j x).trans (h.2.2 j x)⟩
theorem mfd.up {a c a2 c2 : Nat} {N2 : ev_Mem} (h : mfd a c N N2) (h1 : a2 ≤ a) (h2 : c ≤ c2) : mfd a2 c2 N N2 := ⟨h.1, h.2.1, fun j x => h.2.2 j (by omega)⟩
theorem mfd_by {a c : Nat} {N2 : ev_Mem} (h : mfd a c N N2) : byN N2 = byN N := funext fun i => by unfold byN; rw [h.1 5 (by omega) (by omega)]
theorem mfd_n {a c : Nat} {N2 : ev_Mem} (h : nvO N N2) : mfd a c N N2 := ⟨fun i x _ => h.1 i x, h.2, fun j _ => by rw [h.1 4 (by omega)]⟩
theorem mfd_w {x : Nat} {v : Int32} : mfd x (x + 1) N (ev_wr N 4 x v) := ⟨fun i _ y => wr_cell y, fun j _ => by rw [wr_cell (by omega)], fun j y => wr_ne (by omega)⟩
theorem md_b {n s : Nat} (h : mdS N n s) : (∀ i, i < n → byN N i < 256) ∧ n ≤ 300 ∧ srt (byN N) n s < 256 := by
  have hb : ∀ i, i < n → byN N i < 256 := fun i hi => (tn_b h.1 hi).2
  exact ⟨hb, h.1.1, srt_lt hb⟩
theorem md_w {n s x : Nat} {v : Int32} (h : mdS N n s) : mdS (ev_wr N 4 x v) n s := by
  have e : byN (ev_wr N 4 x v) = byN N := mfd_by mfd_w
  have f : ∀ j, (ev_wr N 4 x v).1 0 j = N.1 0 j := fun j => by rw [wr_cell (by omega)]
  exact ⟨⟨h.1.1, (f 5).trans h.1.2.1, by rw [wr_cell (by omega)]; exact h.1.2.2⟩, by rw [e]; exact mkS_f h.2.1 (fun j _ _ => f j) rfl, h.2.2⟩
theorem md_nx {n s a c : Nat} (h : mdS N n s) (hs : s < n) : Cl LM (d + 1) mX11_nextToken [.ref 0] N (fun r N2 => r = none ∧ mdS N2 n (nxs (byN N) n s) ∧ mfd a c N N2 ∧ s < nxs (byN N) n s) := by
  obtain ⟨h1, h2, h3⟩ := h
  have el := nxt_le (b := byN N) (n := n) (s := s) h3
  have sk := skp_le (b := byN N) (n := n) (p := nxt (byN N) n s) el.2.1
  refine (kX11_nextToken h1 h2.2.1 el.2.1).mono (fun r N2 hh => ?_)
  obtain ⟨hr, ha, hm⟩ := hh
  exact ⟨hr, ⟨nvO_tp ha h1, by rw [nvO_by ha]; exact hm, sk.2⟩, mfd_n ha, by unfold nxs; omega⟩
theorem iin_nn {x lo hi : Nat} (hx : x < 2 ^ 31) (hl : lo < 2 ^ 31) (hh : hi < 2 ^ 31) : iin (nI x) (nI lo) (nI hi) = true ↔ lo ≤ x ∧ x ≤ hi := by
  rw [iin_t]
  constructor
  · rintro ⟨h1, h2⟩
    constructor
    · rcases Nat.lt_or_ge x lo with z | z
      · exact absurd h1 (nI_ge z (by omega))
      · exact z
    · rcases Nat.lt_or_ge hi x with z | z
      · exact absurd h2 (nI_ge z (by omega))
      · exact z
  · rintro ⟨h1, h2⟩
    exact ⟨nI_le h1 (by omega), nI_le h2 (by omega)⟩
theorem kX11_figure {n s x lo hi : Nat} (h : mdS N n s) (hx : x < 3780) (hh : hi ≤ 9999) (hl : lo ≤ hi) : Cl LM (d + 2) mX11_figure [.ref 0, .int (nI x), .int (nI lo), .int (nI hi)] N (fun r N2 => (∃ f, nuR (byN N) n lo hi s = Sum.inl (f, s) ∧ 1 ≤ f ∧ f ≤ 8 ∧ r = some (.int (nI f)) ∧ N2 = N) ∨ (nuR (byN N) n lo hi s = Sum.inr ([nuN (byN N) n s], nxs (byN N) n s) ∧ r = some (.int 0) ∧ mdS N2 n (nxs (byN N) n s) ∧ mfd x (x + 1) N N2 ∧ N2.1 4 x = nI (nuN (byN N) n s))) := by
  have b := md_b h
  obtain ⟨⟨t1, -, -⟩, -⟩ := tkE _ b.2.2
  refine Cl_of rfl (Nat.le_of_ble_eq_true rfl) rfl (gX11_figure_0 ?_)
  rw [h.2.1.2.2.1, t1]
  refine ⟨fun e2 => ?_, fun n2 => Or.inl ⟨1, ?_, by omega, by omega, rfl, rfl⟩⟩
  · have nu := h.2.1.2.2.2.1 e2
    have da := dig_all b.1 e2
    have nl := nuK_le (b := byN N) (s := s) (nxt (byN N) n s - s) (fun i hi => (da i hi).2)
    have hsn := srt_end (b := byN N) (n := n) (s := s) (by omega)
    rw [nu]
    have ii := iin_nn (x := nuK (byN N) s (nxt (byN N) n s - s)) (lo := lo) (hi := hi) (by omega) (by omega) (by omega)
    refine ⟨fun z => ⟨vp_in_nI (by omega) (by omega), fun N1 e1 => ?_⟩, fun z => Or.inl ⟨2, ?_, by omega, by omega, rfl, rfl⟩⟩
    · have z2 := ii.mp z
      rw [nI_clamp (by omega)] at e1
      have m1 : mdS N1 n s := by rw [e1]; exact md_w h
      have f1 : mfd x (x + 1) N N1 := by rw [e1]; exact mfd_w
      refine ⟨_, md_nx (a := x + 1) (c := x + 1) m1 hsn, fun zr N2 hz => ?_⟩
      obtain ⟨rfl, m2, f2, lt⟩ := hz
      rw [mfd_by f1] at m2
      refine gX11_figure_38 (Or.inr ⟨?_, rfl, m2, f1.tr (f2.up (by omega) (by omega)), ?_⟩)
      · unfold nuR nuN
        rw [if_pos e2, if_neg (by omega)]
      · rw [f2.2.2 x (by omega), e1, wr_same]
        rfl
    · have z2 : ¬ (lo ≤ nuK (byN N) s (nxt (byN N) n s - s) ∧ nuK (byN N) s (nxt (byN N) n s - s) ≤ hi) := fun q => by rw [ii.mpr q] at z; cases z
      unfold nuR nuN
      rw [if_pos e2, if_pos (by omega)]
  · unfold nuR; rw [if_neg n2]
end
