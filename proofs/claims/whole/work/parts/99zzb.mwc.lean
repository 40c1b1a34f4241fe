section
variable {d : Nat} {N : ev_Mem}
/-- a deed's values as the model keeps them -/
def ddM (q : Nat) (tx : Nat → Int32) (x : Nat) (vs : List Nat) : Prop :=
  (q = 3 → ∃ ls kd se st, vs = ls ++ [kd, se, st] ∧ tx (x + 4) = nI ls.length ∧ (∀ i, i < ls.length → tx (x + 5 + i) = nI (ls.getD i 0)) ∧ (tx (x + 1) = nI kd ∧ kd ≤ 6) ∧ (tx (x + 2) = nI se ∧ se ≤ 11) ∧ tx (x + 3) = nI st ∧ st ≤ 9) ∧
  (q = 4 → tx (x + 1) = nI vs.length ∧ ∀ i, i < vs.length → tx (x + 2 + i) = nI (vs.getD i 0)) ∧
  (q = 5 → ∃ a c l, vs = [a, c, l] ∧ tx (x + 2) = nI a ∧ tx (x + 4) = nI c ∧ tx (x + 5) = nI l ∧ l ≤ 9) ∧
  (q = 6 → ∃ a, vs = [a] ∧ tx (x + 2) = nI a) ∧
  (7 ≤ q → ∃ a, vs = [a] ∧ tx (x + 1) = nI a)
def mdR (n q x : Nat) (N : ev_Mem) (O : DR) (r : Option Value) (N2 : ev_Mem) : Prop := (∃ f s2, O = Sum.inl (f, s2) ∧ 1 ≤ f ∧ f ≤ 8 ∧ r = some (.int (nI f)) ∧ mdS N2 n s2 ∧ mfd (x + 1) (x + 14) N N2) ∨ (∃ vs s2, O = Sum.inr (vs, s2) ∧ r = some (.int 0) ∧ mdS N2 n s2 ∧ mfd (x + 1) (x + 14) N N2 ∧ ddM q (N2.1 4) x vs)
theorem kX11_wordClause {n s x : Nat} (h : mdS N n s) (hx : x < 3600) : Cl LM (d + 4) mX11_wordClause [.ref 0, .int (nI x)] N (mdR n 3 x N (deed (byN N) n 3 s)) := by
  have d3 : deed (byN N) n 3 s = thn (ltR (byN N) n 9 s) fun s => thn (wdR (byN N) n 10 s) fun s => thn (nuR (byN N) n 0 6 s) fun s => thn (wdR (byN N) n 11 s) fun s => thn (nuR (byN N) n 0 11 s) fun s => thn (wdR (byN N) n 12 s) fun s => nuR (byN N) n 0 9 s := rfl
  have tas : ∀ (A : DR) (F G : Nat → DR), thn A (fun s => thn (F s) G) = thn (thn A F) G := by
    intro A F G
    cases A with
    | inl e => rfl
    | inr p =>
      obtain ⟨v, s⟩ := p
      simp only [thn]
      cases F s with
      | inl e => rfl
      | inr p2 =>
        obtain ⟨v2, s2⟩ := p2
        simp only
        cases G s2 with
        | inl e => rfl
        | inr p3 => simp only [List.append_assoc]
  have d3' : deed (byN N) n 3 s = thn (ltR (byN N) n 9 s) fun s => thn (thn (wdR (byN N) n 10 s) fun s => nuR (byN N) n 0 6 s) fun s => thn (thn (wdR (byN N) n 11 s) fun s => nuR (byN N) n 0 11 s) fun s => thn (wdR (byN N) n 12 s) fun s => nuR (byN N) n 0 9 s := by
    rw [d3]
    congr 1
    funext s
    rw [tas]
    congr 1
    funext s
    rw [tas]
  refine Cl_of rfl (Nat.le_of_ble_eq_true rfl) rfl (gX11_wordClause_0 ?_)
  rw [show nI x + 4 = nI (x + 4) from nI_add x 4]
  refine ⟨_, kX11_spelled (m := 9) h (by omega) (by omega), fun zr N1 hz => ?_⟩
  rcases hz with ⟨f, e1, g1, g2, rfl, m1, f1⟩ | ⟨ls, e1, rfl, m1, f1, c0, cs⟩
  · have nz := nI_ne0 g1 (show f < 2 ^ 31 by omega)
    refine gX11_wordClause_9 ⟨fun _ => ⟨fun _ => ⟨fun z => absurd z nz, fun _ => gX11_wordClause_95 (Or.inl ⟨f, s, by rw [d3']; simp only [thn, e1], g1, g2, rfl, m1, f1.up (by omega) (by omega)⟩)⟩, fun z => absurd z nz⟩, fun z => absurd z nz⟩
  · have b1 := mfd_by f1
    refine gX11_wordClause_9 ⟨fun z => absurd rfl z, fun _ => ?_⟩
    rw [nI_1]
    refine ⟨_, kX11_worded (i := 10) (lo := 0) (hi := 6) m1 (by omega) (by omega) (by omega) ⟨wv_kind.1, wv_kind.2⟩, fun zr N2 hz => ?_⟩
    rw [b1] at hz
    rcases hz with ⟨f, s2, e2, g1, g2, rfl, m2, f2⟩ | ⟨kd, s2, e2, hk, rfl, m2, f2, c2⟩
    · have nz := nI_ne0 g1 (show f < 2 ^ 31 by omega)
      exact gX11_wordClause_35 ⟨fun _ => ⟨fun z => absurd z nz, fun _ => gX11_wordClause_95 (Or.inl ⟨f, s2, by rw [d3']; simp only [thn, e1]; simp only [thn] at e2; simp only [e2], g1, g2, rfl, m2, (f1.up (by omega) (by omega)).tr (f2.up (by omega) (by omega))⟩)⟩, fun z => absurd z nz⟩
    · have f12 : mfd (x + 1) (x + 14) N N2 := (f1.up (by omega) (by omega)).tr (f2.up (by omega) (by omega))
      have b2 := mfd_by f12
      refine gX11_wordClause_35 ⟨fun z => absurd rfl z, fun _ => ?_⟩
      rw [show nI x + 2 = nI (x + 2) from nI_add x 2]
      refine ⟨_, kX11_worded (i := 11) (lo := 0) (hi := 11) m2 (by omega) (by omega) (by omega) ⟨wv_sense.1, wv_sense.2⟩, fun zr N3 hz => ?_⟩
      rw [b2] at hz
      rcases hz with ⟨f, s3, e3, g1, g2, rfl, m3, f3⟩ | ⟨se, s3, e3, hs, rfl, m3, f3, c3⟩
      · have nz := nI_ne0 g1 (show f < 2 ^ 31 by omega)
        exact gX11_wordClause_63 ⟨fun z => absurd z nz, fun _ => gX11_wordClause_95 (Or.inl ⟨f, s3, by rw [d3']; simp only [thn] at e2 e3; simp only [thn, e1, e2, e3], g1, g2, rfl, m3, f12.tr (f3.up (by omega) (by omega))⟩)⟩
      · have f13 := f12.tr (f3.up (a2 := x + 1) (c2 := x + 14) (by omega) (by omega))
        have b3 := mfd_by f13
        refine gX11_wordClause_63 ⟨fun _ => ?_, fun z => absurd rfl z⟩
        rw [show nI x + 3 = nI (x + 3) from nI_add x 3]
        refine ⟨_, kX11_worded (i := 12) (lo := 0) (hi := 9) m3 (by omega) (by omega) (by omega) ⟨wv_stiff.1, wv_stiff.2⟩, fun zr N4 hz => ?_⟩
        rw [b3] at hz
        have f3' := f13
        rcases hz with ⟨f, s4, e4, g1, g2, rfl, m4, f4⟩ | ⟨st, s4, e4, ht, rfl, m4, f4, c4⟩
        · exact gX11_wordClause_95 (Or.inl ⟨f, s4, by rw [d3']; simp only [thn] at e2 e3 e4; simp only [thn, e1, e2, e3, e4], g1, g2, rfl, m4, f13.tr (f4.up (by omega) (by omega))⟩)
        · refine gX11_wordClause_95 (Or.inr ⟨ls ++ [kd, se, st], s4, by rw [d3']; simp only [thn] at e2 e3 e4; simp only [thn, e1, e2, e3, e4]; rfl, rfl, m4, f13.tr (f4.up (by omega) (by omega)), fun _ => ⟨ls, kd, se, st, rfl, ?_, fun i hi => ?_, ⟨?_, hk.2⟩, ⟨?_, hs.2⟩, c4, ht.2⟩, fun q => absurd q (by decide), fun q => absurd q (by decide), fun q => absurd q (by decide), fun q => absurd q (by decide)⟩)
          · rw [f4.2.2 _ (by omega), f3.2.2 _ (by omega), f2.2.2 _ (by omega)]; exact c0
          · rw [f4.2.2 _ (by omega), f3.2.2 _ (by omega), f2.2.2 _ (by omega)]; exact cs i hi
          · rw [f4.2.2 _ (by omega), f3.2.2 _ (by omega)]; exact c2
          · rw [f4.2.2 _ (by omega)]; exact c3
end
