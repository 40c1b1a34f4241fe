section
variable {d : Nat} {N : ev_Mem}
theorem mdR_v {n q x : Nat} {O : DR} {r : Option Value} {N2 : ev_Mem} (h : mdR n q x N O r N2) : ∃ v : Int32, r = some (.int v) := by
  rcases h with ⟨f, _, _, _, _, e, _⟩ | ⟨_, _, _, e, _⟩
  · exact ⟨_, e⟩
  · exact ⟨_, e⟩
theorem fig_m {n s x q lo hi : Nat} (h : mdS N n s) (hx : x < 3600) (hh : hi ≤ 9999) (hl : lo ≤ hi) (hq : 7 ≤ q ∧ q ≤ 9) (e : deed (byN N) n q s = nuR (byN N) n lo hi s) : Cl LM (d + 2) mX11_figure [.ref 0, .int (nI x + 1), .int (nI lo), .int (nI hi)] N (mdR n q x N (deed (byN N) n q s)) := by
  rw [nI_1]
  refine (kX11_figure h (by omega) hh hl).mono (fun r N2 hz => ?_)
  rcases hz with ⟨f, e1, g1, g2, rfl, rfl⟩ | ⟨e1, rfl, m1, f1, c1⟩
  · exact Or.inl ⟨f, s, e.trans e1, g1, g2, rfl, h, mfd.rf⟩
  · exact Or.inr ⟨_, _, e.trans e1, rfl, m1, f1.up (by omega) (by omega), fun z => by omega, fun z => by omega, fun z => by omega, fun z => by omega, fun _ => ⟨_, rfl, c1⟩⟩
theorem kX11_body {n s x q : Nat} (h : mdS N n s) (hx : x < 3600) (hq : 3 ≤ q ∧ q ≤ 9) : Cl LM (d + 5) mX11_body [.ref 0, .int (nI q), .int (nI x)] N (mdR n q x N (deed (byN N) n q s)) := by
  have tb : ∀ c, c < 256 → (nI q = nI c ↔ q = c) := fun c hc => nI_eq (by omega) (by omega)
  refine Cl_of rfl (Nat.le_of_ble_eq_true rfl) rfl (gX11_body_0 ⟨fun e => ?_, fun e => ?_, fun e => ?_, fun e => ?_, fun e => ?_, fun e => ?_, fun e => ?_, fun e => ?_⟩)
  · obtain rfl := (tb 3 (by omega)).mp e
    refine ⟨_, kX11_wordClause h hx, fun zr zM hz => ?_⟩
    obtain ⟨v, rfl⟩ := mdR_v hz
    exact gX11_body_49 hz
  · obtain rfl := (tb 4 (by omega)).mp e
    refine ⟨_, kX11_sayClause h hx, fun zr zM hz => ?_⟩
    obtain ⟨v, rfl⟩ := mdR_v hz
    exact gX11_body_55 hz
  · obtain rfl := (tb 5 (by omega)).mp e
    refine ⟨_, kX11_makeClause h hx, fun zr zM hz => ?_⟩
    obtain ⟨v, rfl⟩ := mdR_v hz
    exact gX11_body_61 hz
  · obtain rfl := (tb 6 (by omega)).mp e
    rw [nI_1]
    refine ⟨_, kX11_spelled (m := 1) h (by omega) (by omega), fun zr zM hz => ?_⟩
    rcases hz with ⟨f, e1, g1, g2, rfl, m1, f1⟩ | ⟨l1, e1, rfl, m1, f1, c0, cs⟩
    · exact gX11_body_70 (Or.inl ⟨f, s, e1, g1, g2, rfl, m1, f1.up (by omega) (by omega)⟩)
    · obtain ⟨rfl, a1, -⟩ := ltR_1 e1 h.2.2
      exact gX11_body_70 (Or.inr ⟨_, _, e1, rfl, m1, f1.up (by omega) (by omega), fun z => absurd z (by decide), fun z => absurd z (by decide), fun z => absurd z (by decide), fun _ => ⟨_, rfl, cs 0 (by simp)⟩, fun z => absurd z (by decide)⟩)
  · obtain rfl := (tb 7 (by omega)).mp e
    refine ⟨_, fig_m (q := 7) (lo := 0) (hi := 23) h hx (by omega) (by omega) (by omega) rfl, fun zr zM hz => ?_⟩
    obtain ⟨v, rfl⟩ := mdR_v hz
    exact gX11_body_81 hz
  · obtain rfl := (tb 8 (by omega)).mp e
    refine ⟨_, fig_m (q := 8) (lo := 0) (hi := 7) h hx (by omega) (by omega) (by omega) rfl, fun zr zM hz => ?_⟩
    obtain ⟨v, rfl⟩ := mdR_v hz
    exact gX11_body_92 hz
  · obtain rfl := (tb 9 (by omega)).mp e
    refine ⟨_, fig_m (q := 9) (lo := 1) (hi := 40) h hx (by omega) (by omega) (by omega) rfl, fun zr zM hz => ?_⟩
    obtain ⟨v, rfl⟩ := mdR_v hz
    exact gX11_body_103 hz
  · exfalso
    obtain ⟨n3, n4, n5, n6, n7, n8, n9⟩ := e
    have m3 : q ≠ 3 := fun z => n3 ((tb 3 (by omega)).mpr z)
    have m4 : q ≠ 4 := fun z => n4 ((tb 4 (by omega)).mpr z)
    have m5 : q ≠ 5 := fun z => n5 ((tb 5 (by omega)).mpr z)
    have m6 : q ≠ 6 := fun z => n6 ((tb 6 (by omega)).mpr z)
    have m7 : q ≠ 7 := fun z => n7 ((tb 7 (by omega)).mpr z)
    have m8 : q ≠ 8 := fun z => n8 ((tb 8 (by omega)).mpr z)
    have m9 : q ≠ 9 := fun z => n9 ((tb 9 (by omega)).mpr z)
    omega
end
