section
variable {d : Nat} {N : ev_Mem}
/-- what comes behind a sense, r more at most -/
def stT (b : Nat → Nat) (n r s : Nat) : DR := if srt b n s = 44 then (if r = 0 then Sum.inl (8, s) else ssR b n r (nxs b n s)) else Sum.inr ([], s)
def cat' (v : List Nat) (O : DR) : DR := match O with
  | Sum.inl e => Sum.inl e
  | Sum.inr (w, s) => Sum.inr (v ++ w, s)
theorem cat_cat {v w : List Nat} {O : DR} : cat' v (cat' w O) = cat' (v ++ w) O := by
  cases O with
  | inl e => rfl
  | inr p => simp only [cat', List.append_assoc]
theorem ssR_t {b : Nat → Nat} {n r s : Nat} {v : List Nat} {s1 : Nat} (h : nuR b n 0 11 s = Sum.inr (v, s1)) : ssR b n (r + 1) s = cat' v (stT b n r s1) := by
  rw [ssR, h]
  simp only
  unfold stT
  by_cases z : srt b n s1 = 44
  · rw [if_pos z, if_pos z]
    by_cases y : r = 0
    · rw [if_pos y, if_pos y]; rfl
    · rw [if_neg y, if_neg y]; rfl
  · rw [if_neg z, if_neg z]
    simp only [cat', List.append_nil]
theorem tk44 : ∀ c, c < 256 → (nI (tkN c) = 44 ↔ c = 44) := by decide +kernel
theorem kX11_sayClause {n s x : Nat} (h : mdS N n s) (hx : x < 3600) : Cl LM (d + 4) mX11_sayClause [.ref 0, .int (nI x)] N (mdR n 4 x N (deed (byN N) n 4 s)) := by
  have d4 : deed (byN N) n 4 s = ssR (byN N) n 5 s := rfl
  have bad : ∀ (f s2 : Nat) (j : Int32) (N1 : ev_Mem), deed (byN N) n 4 s = Sum.inl (f, s2) → 1 ≤ f → f ≤ 8 → mdS N1 n s2 → mfd (x + 1) (x + 14) N N1 → Ev LM (d + 4) mX11_sayClause 13 [some (.ref 0), some (.int (nI x)), some (.int (nI f)), some (.int j)] [] N1 (mdR n 4 x N (deed (byN N) n 4 s)) := by
    intro f s2 j N1 e g1 g2 m1 f1
    refine gX11_sayClause_13 ⟨fun _ => ?_, fun z => absurd z (nI_ne0 g1 (by omega))⟩
    rw [nI_1]
    refine ⟨vp_in_nI (by omega) (by omega), fun N2 e2 => Or.inl ⟨f, s2, e, g1, g2, rfl, ?_, ?_⟩⟩
    · rw [e2]; exact md_w m1
    · rw [e2, nI_clamp (by omega)]; exact f1.tr (mfd_w.up (by omega) (by omega))
  have lp : ∀ (r j s1 : Nat) (acc : List Nat) (N1 : ev_Mem), j + r = 5 → 1 ≤ j → acc.length = j → mdS N1 n s1 → mfd (x + 1) (x + 14) N N1 → (∀ i, i < j → N1.1 4 (x + 2 + i) = nI (acc.getD i 0)) → deed (byN N) n 4 s = cat' acc (stT (byN N) n r s1) → Ev LM (d + 4) mX11_sayClause 13 [some (.ref 0), some (.int (nI x)), some (.int 0), some (.int (nI j))] [] N1 (mdR n 4 x N (deed (byN N) n 4 s)) := by
    intro r
    induction r with
    | zero =>
      intro j s1 acc N1 hj j1 ha m1 f1 cs lk
      have b1 := mfd_by f1
      have bb := md_b m1
      rw [b1] at bb
      have e10 := m1.2.1.2.2.1
      rw [b1] at e10
      obtain rfl : j = 5 := by omega
      refine gX11_sayClause_13 ⟨fun z => absurd rfl z, fun _ => ?_⟩
      rw [e10, tk44 _ bb.2.2, nI_1]
      refine ⟨fun z => ⟨vp_in_nI (by omega) (by omega), fun N2 e2 => Or.inr ⟨acc, s1, ?_, rfl, ?_, ?_, fun q => absurd q (by decide), fun _ => ⟨?_, fun i hi => ?_⟩, fun q => absurd q (by decide), fun q => absurd q (by decide), fun q => absurd q (by decide)⟩⟩, fun z => ⟨fun q => absurd rfl q, fun _ => Or.inl ⟨8, s1, ?_, by omega, by omega, rfl, m1, f1⟩⟩⟩
      · rw [lk]; unfold stT; rw [if_neg z]; simp only [cat', List.append_nil]
      · rw [e2]; exact md_w m1
      · rw [e2, nI_clamp (by omega)]; exact f1.tr (mfd_w.up (by omega) (by omega))
      · rw [e2, nI_clamp (by omega), wr_same, ha]
      · rw [e2, nI_clamp (by omega), wr_ne (by omega)]; exact cs i (by omega)
      · rw [lk]; unfold stT; rw [if_pos z, if_pos rfl]; rfl
    | succ r ih =>
      intro j s1 acc N1 hj j1 ha m1 f1 cs lk
      have b1 := mfd_by f1
      have bb := md_b m1
      rw [b1] at bb
      have e10 := m1.2.1.2.2.1
      rw [b1] at e10
      refine gX11_sayClause_13 ⟨fun z => absurd rfl z, fun _ => ?_⟩
      rw [e10, tk44 _ bb.2.2, nI_1]
      refine ⟨fun z => ⟨vp_in_nI (by omega) (by omega), fun N2 e2 => Or.inr ⟨acc, s1, ?_, rfl, ?_, ?_, fun q => absurd q (by decide), fun _ => ⟨?_, fun i hi => ?_⟩, fun q => absurd q (by decide), fun q => absurd q (by decide), fun q => absurd q (by decide)⟩⟩, fun z => ⟨fun _ => ?_, fun q => ?_⟩⟩
      · rw [lk]; unfold stT; rw [if_neg z]; simp only [cat', List.append_nil]
      · rw [e2]; exact md_w m1
      · rw [e2, nI_clamp (by omega)]; exact f1.tr (mfd_w.up (by omega) (by omega))
      · rw [e2, nI_clamp (by omega), wr_same, ha]
      · rw [e2, nI_clamp (by omega), wr_ne (by omega)]; exact cs i (by omega)
      · have lk2 : deed (byN N) n 4 s = cat' acc (ssR (byN N) n (r + 1) (nxs (byN N) n s1)) := by rw [lk]; unfold stT; rw [if_pos z, if_neg (by omega)]
        refine ⟨_, md_nx (a := x + 1) (c := x + 1) m1 (srt_end (b := byN N) (by omega)), fun zr N2 hz => ?_⟩
        obtain ⟨rfl, m2, f2, lt⟩ := hz
        rw [b1] at m2
        have F2 := f1.tr (f2.up (a2 := x + 1) (c2 := x + 14) (by omega) (by omega))
        have b2 := mfd_by F2
        refine gX11_sayClause_38 ?_
        rw [show (nI x + 2) + nI j = nI (x + 2 + j) by rw [show (2 : Int32) = nI 2 from rfl, nI_add, nI_add]]
        refine ⟨_, kX11_figure (lo := 0) (hi := 11) m2 (by omega) (by omega) (by omega), fun zr N3 hz => ?_⟩
        rw [b2] at hz
        rcases hz with ⟨f, e, g1, g2, rfl, rfl⟩ | ⟨e, rfl, m3, f3, c3⟩
        · exact gX11_sayClause_50 (bad f _ _ _ (by rw [lk2, ssR, e]; rfl) g1 g2 m2 F2)
        · refine gX11_sayClause_50 ?_
          rw [nI_1]
          refine ih (j + 1) _ (acc ++ [nuN (byN N) n (nxs (byN N) n s1)]) N3 (by omega) (by omega) (by rw [List.length_append, ha]; rfl) m3 (F2.tr (f3.up (by omega) (by omega))) (fun i hi => ?_) (by rw [lk2, ssR_t e, cat_cat])
          rcases Nat.lt_or_ge i j with w | w
          · rw [f3.2.2 _ (by omega), f2.2.2 _ (by omega), cs i w, gD_l (by omega)]
          · obtain rfl : i = j := by omega
            rw [c3, ← ha, gD_r]
      · exact absurd ((nI_eq (b := 5) (by omega) (by omega)).mp q) (by omega)
  refine Cl_of rfl (Nat.le_of_ble_eq_true rfl) rfl (gX11_sayClause_0 ?_)
  rw [show nI x + 2 = nI (x + 2) from nI_add x 2]
  refine ⟨_, kX11_figure (lo := 0) (hi := 11) h (by omega) (by omega) (by omega), fun zr N1 hz => ?_⟩
  rcases hz with ⟨f, e, g1, g2, rfl, rfl⟩ | ⟨e, rfl, m1, f1, c1⟩
  · exact gX11_sayClause_10 (bad f s _ _ (by rw [d4, ssR, e]) g1 g2 h mfd.rf)
  · refine gX11_sayClause_10 (lp 4 1 _ [nuN (byN N) n s] N1 (by omega) (by omega) rfl m1 (f1.up (by omega) (by omega)) (fun i hi => ?_) (by rw [d4, ssR_t e]))
    obtain rfl : i = 0 := by omega
    exact c1
end
