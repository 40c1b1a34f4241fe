section
variable {d : Nat} {N : ev_Mem}
theorem ltR_1 {b : Nat → Nat} {n s : Nat} {vs : List Nat} {s2 : Nat} (h : ltR b n 1 s = Sum.inr (vs, s2)) (hs : s ≤ n) : vs = [b s - 97] ∧ b s - 97 ≤ 25 ∧ s < n := by
  have el := nxt_le (b := b) (n := n) (s := s) hs
  unfold ltR at h
  split at h
  · rename_i h1
    have hsn := srt_end (b := b) (n := n) (s := s) (by omega)
    split at h
    · cases h
    · rename_i z1
      split at h
      · rename_i z2
        cases h
        have L1 : nxt b n s - s = 1 := by omega
        unfold sma at z2
        rw [L1] at z2 ⊢
        have z3 := al_t.mp z2 0 (by omega)
        rw [Nat.add_zero, Bool.and_eq_true, decide_eq_true_iff, decide_eq_true_iff] at z3
        exact ⟨rfl, by omega, hsn⟩
      · cases h
  · cases h
theorem kX11_makeClause {n s x : Nat} (h : mdS N n s) (hx : x < 3600) : Cl LM (d + 4) mX11_makeClause [.ref 0, .int (nI x)] N (mdR n 5 x N (deed (byN N) n 5 s)) := by
  have d5 : deed (byN N) n 5 s = thn (ltR (byN N) n 1 s) fun s => thn (wdR (byN N) n 13 s) fun s => thn (ltR (byN N) n 1 s) fun s => thn (wdR (byN N) n 14 s) fun s => nuR (byN N) n 0 9 s := rfl
  have b := md_b h
  refine Cl_of rfl (Nat.le_of_ble_eq_true rfl) rfl (gX11_makeClause_0 ?_)
  rw [nI_1]
  refine ⟨_, kX11_spelled (m := 1) h (by omega) (by omega), fun zr N1 hz => ?_⟩
  rcases hz with ⟨f, e1, g1, g2, rfl, m1, f1⟩ | ⟨l1, e1, rfl, m1, f1, c0, cs⟩
  · have nz := nI_ne0 g1 (show f < 2 ^ 31 by omega)
    exact gX11_makeClause_8 ⟨fun z => absurd z nz, fun _ => Or.inl ⟨f, s, by rw [d5]; simp only [thn, e1], g1, g2, rfl, m1, f1.up (by omega) (by omega)⟩⟩
  · obtain ⟨rfl, a1, -⟩ := ltR_1 e1 h.2.2
    have F1 : mfd (x + 1) (x + 14) N N1 := f1.up (by omega) (by omega)
    have b1 := mfd_by F1
    have iw : isw N1 (w2f 111 102) = tkW (byN N) n (nxs (byN N) n s) (wdI 13) := by
      have := isw_e (md_b m1).1 m1.2.1 wv_of.2
      rw [b1] at this
      rw [wv_of.1]
      exact this
    refine gX11_makeClause_8 ⟨fun _ => ?_, fun z => absurd rfl z⟩
    rw [iw]
    refine ⟨fun z => ?_, fun z => Or.inl ⟨1, _, ?_, by omega, by omega, rfl, m1, F1⟩⟩
    · have e2 : wdR (byN N) n 13 (nxs (byN N) n s) = Sum.inr ([], nxs (byN N) n (nxs (byN N) n s)) := by unfold wdR; rw [if_pos z]
      refine ⟨_, md_nx (a := x + 1) (c := x + 1) m1 (srt_end (b := byN N) (by rw [tkW_s z]; decide)), fun zr N2 hz => ?_⟩
      obtain ⟨rfl, m2, f2, lt⟩ := hz
      rw [b1] at m2
      have F2 := F1.tr (f2.up (a2 := x + 1) (c2 := x + 14) (by omega) (by omega))
      have b2 := mfd_by F2
      refine gX11_makeClause_35 ?_
      rw [show nI x + 3 = nI (x + 3) from nI_add x 3]
      refine ⟨_, kX11_spelled (m := 1) m2 (by omega) (by omega), fun zr N3 hz => ?_⟩
      rw [b2] at hz
      rcases hz with ⟨f, e3, g1, g2, rfl, m3, f3⟩ | ⟨l3, e3, rfl, m3, f3, c3, cs3⟩
      · have nz := nI_ne0 g1 (show f < 2 ^ 31 by omega)
        exact gX11_makeClause_43 ⟨fun z => absurd z nz, fun _ => gX11_makeClause_73 (Or.inl ⟨f, _, by rw [d5]; simp only [thn, e1, e2, e3], g1, g2, rfl, m3, F2.tr (f3.up (by omega) (by omega))⟩)⟩
      · obtain ⟨rfl, a3, -⟩ := ltR_1 e3 m2.2.2
        have F3 := F2.tr (f3.up (a2 := x + 1) (c2 := x + 14) (by omega) (by omega))
        have b3 := mfd_by F3
        refine gX11_makeClause_43 ⟨fun _ => ?_, fun z => absurd rfl z⟩
        rw [show nI x + 5 = nI (x + 5) from nI_add x 5]
        refine ⟨_, kX11_worded (i := 14) (lo := 0) (hi := 9) m3 (by omega) (by omega) (by omega) ⟨wv_look.1, wv_look.2⟩, fun zr N4 hz => ?_⟩
        rw [b3] at hz
        rcases hz with ⟨f, s4, e4, g1, g2, rfl, m4, f4⟩ | ⟨lo, s4, e4, hk, rfl, m4, f4, c4⟩
        · exact gX11_makeClause_73 (Or.inl ⟨f, s4, by rw [d5]; simp only [thn] at e4; simp only [thn, e1, e2, e3, e4], g1, g2, rfl, m4, F3.tr (f4.up (by omega) (by omega))⟩)
        · refine gX11_makeClause_73 (Or.inr ⟨[byN N s - 97, byN N (nxs (byN N) n (nxs (byN N) n s)) - 97, lo], s4, by rw [d5]; simp only [thn] at e4; simp only [thn, e1, e2, e3, e4]; rfl, rfl, m4, F3.tr (f4.up (by omega) (by omega)), fun q => absurd q (by decide), fun q => absurd q (by decide), fun _ => ⟨_, _, _, rfl, ?_, ?_, c4, hk.2⟩, fun q => absurd q (by decide), fun q => absurd q (by decide)⟩)
          · rw [f4.2.2 _ (by omega), f3.2.2 _ (by omega), f2.2.2 _ (by omega)]
            exact cs 0 (by simp)
          · rw [f4.2.2 _ (by omega)]
            exact cs3 0 (by simp)
    · have e2 : wdR (byN N) n 13 (nxs (byN N) n s) = Sum.inl (1, nxs (byN N) n s) := by unfold wdR; rw [z]; rfl
      rw [d5]; simp only [thn, e1, e2]
end
