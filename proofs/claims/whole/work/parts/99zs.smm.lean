/-! A WHOLE SUM, AS THE MODEL READS IT -/
section
variable {d : Nat} {N0 N : ev_Mem} {t0 w0 k n s e : Nat} {P : List Nat} {K : List (Nat × Nat)}
/-- the machine comes to an end, and to one alone -/
theorem MR_all {b : Nat → Nat} {n k : Nat} : ∀ (m s : Nat) (P : List Nat) (w : Bool) (K : List (Nat × Nat)), s ≤ n → n - s ≤ m → ∃ R, MR b n k s P w K R := by
  have nx : ∀ s, s < n → s < nxs b n s ∧ nxs b n s ≤ n := fun s hs => by
    have el := nxt_le (b := b) (n := n) (s := s) (by omega)
    have sk := skp_le (b := b) (n := n) (p := nxt b n s) el.2.1
    unfold nxs
    omega
  have st : ∀ s P w K, (∃ R, stp b n k (s, P, w, K) = Sum.inr R) ∨ (s < n ∧ ∃ P2 w2 K2, stp b n k (s, P, w, K) = Sum.inl (nxs b n s, P2, w2, K2)) := by
    intro s P w K
    cases w with
    | true =>
      rw [stp_t]
      unfold stW
      by_cases b0 : btP b n s P = 0
      · rw [if_pos b0]
        cases ep : ptP b n s P with
        | none =>
          simp only
          split
          · exact Or.inl ⟨_, rfl⟩
          · exact Or.inl ⟨_, rfl⟩
        | some x =>
          have := (pt_c ep).1
          cases x with
          | zero => exact Or.inr ⟨this, _, _, _, rfl⟩
          | succ x => exact Or.inr ⟨this, _, _, _, rfl⟩
      · rw [if_neg b0]
        exact Or.inr ⟨(bt_c rfl b0).2.2.2.2, _, _, _, rfl⟩
    | false =>
      rw [stp_f]
      have op : ∀ c, s < n → (∃ R, opq b n s P K c = Sum.inr R) ∨ (s < n ∧ ∃ P2 w2 K2, opq b n s P K c = Sum.inl (nxs b n s, P2, w2, K2)) := by
        intro c hs
        unfold opq
        split
        · exact Or.inl ⟨_, rfl⟩
        · exact Or.inr ⟨hs, _, _, _, rfl⟩
      have wn : ∀ {l : List Nat}, tkW b n s l = true → s < n := fun q => srt_end (b := b) (by rw [tkW_s q]; decide)
      unfold stB emq
      split
      · rename_i z
        split
        · exact Or.inl ⟨_, rfl⟩
        · exact Or.inr ⟨srt_end (b := b) (n := n) (s := s) (by omega), _, _, _, rfl⟩
      · split
        · rename_i z1 z2
          have hs : s < n := srt_end (b := b) (n := n) (s := s) (fun q => by
            rw [nm_no (by omega)] at z2
            exact nm_m1 z2)
          split
          · exact Or.inr ⟨hs, _, _, _, rfl⟩
          · exact Or.inl ⟨_, rfl⟩
        · split
          · exact op 40 (srt_end (b := b) (n := n) (s := s) (by omega))
          · split
            · exact op 4 (srt_end (b := b) (n := n) (s := s) (by omega))
            · split
              · rename_i q; exact op 2 (wn q)
              · split
                · rename_i q; exact op 41 (wn q)
                · split
                  · rename_i q
                    rw [Bool.and_eq_true] at q
                    exact op 20 (wn q.1)
                  · exact Or.inl ⟨_, rfl⟩
  intro m
  induction m with
  | zero =>
    intro s P w K hs hm
    rcases st s P w K with ⟨R, h⟩ | ⟨h, -⟩
    · exact ⟨R, MR.en h⟩
    · omega
  | succ m ih =>
    intro s P w K hs hm
    rcases st s P w K with ⟨R, h⟩ | ⟨h, P2, w2, K2, h2⟩
    · exact ⟨R, MR.en h⟩
    · have := nx s h
      obtain ⟨R, hR⟩ := ih (nxs b n s) P2 w2 K2 (by omega) (by omega)
      exact ⟨R, MR.go h2 hR⟩
theorem rnM_det {b : Nat → Nat} {n k : Nat} : ∀ {j j2 : Nat} {q : TS} {R R2 : TR}, rnM b n k j q = some R → rnM b n k j2 q = some R2 → R = R2
  | 0, _, _, _, _, h, _ => by cases h
  | _ + 1, 0, _, _, _, _, h => by cases h
  | j + 1, j2 + 1, q, R, R2, h, h2 => by
    rw [rnM] at h h2
    cases e : stp b n k q with
    | inl q2 =>
      rw [e] at h h2
      exact rnM_det h h2
    | inr Z =>
      rw [e] at h h2
      cases h
      cases h2
      rfl
theorem MR_det {b : Nat → Nat} {w : Bool} {R R2 : TR} (h : MR b n k s P w K R) (h2 : MR b n k s P w K R2) : R = R2 := by
  obtain ⟨j, h⟩ := h
  obtain ⟨j2, h2⟩ := h2
  exact rnM_det h h2
/-- the end of a sum -/
def mEnd (N0 : ev_Mem) (t0 w0 k n : Nat) (R : TR) (r : Option Value) (N2 : ev_Mem) : Prop := (∃ f s, R = flt f s ∧ 1 ≤ f ∧ f ≤ 8 ∧ r = some (.int (nI f)) ∧ gfr t0 w0 N0 N2 ∧ N2.1 0 9 = nI s) ∨ (∃ s K, R = fin' s K ∧ r = some (.int 0) ∧ mSt N0 N2 t0 w0 k n s [] K 0)
theorem sm_lp : ∀ (j s : Nat) (P : List Nat) (w : Bool) (K : List (Nat × Nat)) (R : TR) (N : ev_Mem), rnM (byN N0) n k j (s, P, w, K) = some R → mSt N0 N t0 w0 k n s P K 0 → N.1 0 19 = bi w → Ev LM (d + 8) mX11_summed 15 [some (.ref 0), none] [] N (mEnd N0 t0 w0 k n R) := by
  intro j
  induction j with
  | zero => intro s P w K R N h; cases h
  | succ j ih =>
    intro s P w K R N h hS hw
    rw [rnM] at h
    have hP := hS.2.2.2.2.1
    have pk := pk_ok hP
    have ow := ow_41 pk.2.2.1 (on_lt hP.2.2.1).1
    cases w with
    | false =>
      rw [stp_f] at h
      refine gX11_summed_15 ⟨fun _ => ⟨_, kX11_beginOne hS hw, fun zr N1 hz => ?_⟩, fun z => absurd (by rw [hw]; rfl) z⟩
      rcases hz with ⟨s2, P2, w2, K2, e, rfl, h2, h3⟩ | ⟨f, s2, e, f1, f2, rfl, h2, h3⟩
      · rw [e] at h
        exact gX11_summed_52 ⟨fun _ => ih s2 P2 w2 K2 R N1 h h2 h3, fun z => absurd rfl z⟩
      · rw [e] at h
        cases h
        exact gX11_summed_52 ⟨fun z => absurd z (nI_ne0 f1 (by omega)), fun _ => Or.inl ⟨f, s2, rfl, f1, f2, rfl, h2, h3⟩⟩
    | true =>
      rw [stp_t] at h
      refine gX11_summed_15 ⟨fun z => absurd z (by rw [hw]; decide), fun _ => ⟨_, kX11_behindOne hS hw, fun zr N1 hz => ?_⟩⟩
      rcases hz with ⟨s2, P2, w2, K2, e, rfl, h2, h3⟩ | ⟨b0, ep, rfl, rfl⟩
      · rw [e] at h
        exact gX11_summed_26 ⟨fun z => absurd z (by decide), fun _ => ih s2 P2 w2 K2 R N1 h h2 h3⟩
      · have e : stW (byN N0) n s P K = (if onP P = 0 then Sum.inr (fin' s (stl 1 P K).2) else Sum.inr (flt 1 s)) := by
          unfold stW
          rw [if_pos b0, ep]
        rw [e] at h
        refine gX11_summed_26 ⟨fun _ => ⟨pk.1, fun z => ⟨_, kX11_settle (r := 1) (by omega) (by omega) hP, fun zr N2 hz => ?_⟩, fun z => ?_⟩, fun z => absurd rfl z⟩
        · have o0 := ow.2.mp z
          rw [if_pos o0] at h
          cases h
          obtain ⟨rfl, s1, s2⟩ := hz
          have h2 := st_s hS s1 s2
          rcases st_top s2.2.2.1 stl_is with ⟨q1, q2⟩ | ⟨q, P2, q1, q2, q3⟩
          · rw [q1] at h2
            exact gX11_summed_46 (Or.inr ⟨s, _, rfl, rfl, h2⟩)
          · rw [stl_on (by omega)] at q3
            omega
        · have o0 : ¬ onP P = 0 := fun q => z (ow.2.mpr q)
          rw [if_neg o0] at h
          cases h
          exact Or.inl ⟨1, s, rfl, by omega, by omega, rfl, hS.1, hS.2.2.1.1⟩
theorem kX11_summed {t0 w0 k n s : Nat} (ht : tpN N n) (hk : mkS N (byN N) n s) (hs : s ≤ n) (h13 : N.1 0 13 = nI t0) (ht0 : t0 ≤ 2835) (h14 : N.1 0 14 = nI w0) (hw : w0 ≤ s) (h15 : N.1 0 15 = nI k) : ∃ R, MR (byN N) n k s [] false [] R ∧ Cl LM (d + 8) mX11_summed [.ref 0] N (mEnd N t0 w0 k n R) := by
  obtain ⟨R, j, hR⟩ := MR_all (b := byN N) (n := n) (k := k) (n - s) s [] false [] hs (Nat.le_refl _)
  have n3 := ht.1
  refine ⟨R, ⟨j, hR⟩, Cl_of rfl (Nat.le_of_ble_eq_true rfl) rfl (gX11_summed_0 fun N1 e1 N2 e2 N3 e3 => ?_)⟩
  have f0 : ∀ j, j < 17 ∨ 19 < j → N3.1 0 j = N.1 0 j := fun j hj => by rw [e3, wr_ne (by omega), e2, wr_ne (by omega), e1, wr_ne (by omega)]
  have fc : ∀ i, i ≠ 0 → N3.1 i = N.1 i := fun i hi => by rw [e3, wr_cell hi, e2, wr_cell hi, e1, wr_cell hi]
  have hg : gfr t0 w0 N N3 := by rw [e3, e2, e1]; exact ((gfr_w (by omega)).tr (gfr_w (by omega))).tr (gfr_w (by omega))
  refine sm_lp j s [] false [] R N3 hR ⟨hg, ⟨ht, g_tp hg ht⟩, mkS_f hk (fun j a b => f0 j (by omega)) (by rw [e3, e2, e1]; rfl), hs, ⟨?_, trivial, trivial, ?_, by decide, (f0 13 (by omega)).trans h13, (f0 14 (by omega)).trans h14, ?_, by simp only [List.length_nil]; omega, ht0⟩, (f0 15 (by omega)).trans h15, by simp only [List.length_nil]; omega⟩ (by rw [e3, wr_same]; rfl)
  · rw [e3, wr_ne (by omega), e2, wr_ne (by omega), e1, wr_same]; rfl
  · rw [e3, wr_ne (by omega), e2, wr_same]; rfl
  · intro j hj
    simp only [List.length_nil] at hj
    omega
end
