/-! the model's tokens -/
section
variable {d : Nat} {M N : ev_Mem}
def byN (N : ev_Mem) (i : Nat) : Nat := (N.1 5 i).toNatClampNeg
def tpN (N : ev_Mem) (n : Nat) : Prop := n ≤ 300 ∧ N.1 0 5 = nI n ∧ ∀ i, i < n → upto (N.1 5 i) 255
def nvO (N N2 : ev_Mem) : Prop := (∀ k, k ≠ 0 → N2.1 k = N.1 k) ∧ ∀ j, j < 8 ∨ 11 < j → N2.1 0 j = N.1 0 j
theorem nvO.rf : nvO N N := ⟨fun _ _ => rfl, fun _ _ => rfl⟩
theorem nvO.tr {N1 N2 : ev_Mem} (h : nvO N N1) (k : nvO N1 N2) : nvO N N2 := ⟨fun i hi => (k.1 i hi).trans (h.1 i hi), fun j hj => (k.2 j hj).trans (h.2 j hj)⟩
theorem nvO_wr {j : Nat} {v : Int32} (h : 8 ≤ j ∧ j ≤ 11) : nvO N (ev_wr N 0 j v) := ⟨fun k hk => wr_cell hk, fun i hi => wr_ne (by omega)⟩
theorem nvO_wl {j : Nat} {v : Int64} : nvO N (ev_wl N 0 j v) := ⟨fun _ _ => rfl, fun _ _ => rfl⟩
theorem tn_b {n i : Nat} (h : tpN N n) (hi : i < n) : N.1 5 i = nI (byN N i) ∧ byN N i < 256 := by
  obtain ⟨c, hc, e⟩ := h.2.2 i hi
  unfold byN
  rw [e, nI_clamp (by omega)]
  exact ⟨rfl, by omega⟩
theorem nvO_tp {N2 : ev_Mem} {n : Nat} (h : nvO N N2) (k : tpN N n) : tpN N2 n := ⟨k.1, by rw [h.2 5 (by omega)]; exact k.2.1, by rw [h.1 5 (by omega)]; exact k.2.2⟩
theorem nvO_by {N2 : ev_Mem} (h : nvO N N2) : byN N2 = byN N := funext fun i => by unfold byN; rw [h.1 5 (by omega)]
/-- the byte at a place, or none -/
theorem bt_in {n i : Nat} (h : tpN N n) (hi : i < n) : baOK N (nI i) ∧ btA N (nI i) = nI (byN N i) ∧ byN N i < 256 := by
  have := h.1
  obtain ⟨h1, h2⟩ := tn_b h hi
  refine ⟨Or.inr (vp_in_nI (by omega) (by omega)), ?_, h2⟩
  unfold btA
  rw [h.2.1, if_neg (nI_ge hi (by omega)), nI_clamp (by omega), h1]
theorem bt_out {n i : Nat} (h : tpN N n) (hi : n ≤ i) (hi2 : i < 2 ^ 31) : baOK N (nI i) ∧ btA N (nI i) = -1 := by
  have hl : N.1 0 5 ≤ nI i := by rw [h.2.1]; exact nI_le hi hi2
  exact ⟨Or.inl hl, by unfold btA; rw [if_pos hl]⟩
/-- the model's number of k figures, its spelling of k letters -/
def nuK (b : Nat → Nat) (s : Nat) : Nat → Nat
  | 0 => 0
  | k + 1 => if 99999 < nuK b s k then nuK b s k else 10 * nuK b s k + (b (s + k) - 48)
def spK (b : Nat → Nat) (s : Nat) : Nat → Nat
  | 0 => 0
  | k + 1 => if spK b s k / 2 ^ 48 = 0 then spK b s k * 256 + b (s + k) else 2 ^ 60
theorem nuK_le {b : Nat → Nat} {s : Nat} : ∀ k, (∀ i, i < k → b (s + i) ≤ 57) → nuK b s k ≤ 999999
  | 0, _ => by rw [nuK]; omega
  | k + 1, h => by
    have ih := nuK_le (b := b) (s := s) k (fun i hi => h i (by omega))
    have := h k (by omega)
    rw [nuK]
    split <;> omega
theorem spK_lt {b : Nat → Nat} {s : Nat} : ∀ k, (∀ i, i < k → b (s + i) < 256) → spK b s k < 2 ^ 61
  | 0, _ => by rw [spK]; omega
  | k + 1, h => by
    have := h k (by omega)
    rw [spK]
    split
    · rename_i z
      have : spK b s k < 2 ^ 48 := by omega
      omega
    · omega
def tkN (c : Nat) : Nat := if c = 1 then 2 else if c = 2 then 1 else c
def mkS (N : ev_Mem) (b : Nat → Nat) (n s : Nat) : Prop := N.1 0 9 = nI s ∧ N.1 0 8 = nI (nxt b n s) ∧ N.1 0 10 = nI (tkN (srt b n s)) ∧ (srt b n s = 2 → N.1 0 11 = nI (nuK b s (nxt b n s - s))) ∧ (srt b n s = 1 → N.2 0 12 = lN (spK b s (nxt b n s - s)))
theorem soD : ∀ n, n < 256 → (soN n = 2 ↔ isD n = true) := by decide +kernel
theorem soL : ∀ n, n < 256 → (soN n = 1 ↔ isL n = true) := by decide +kernel
theorem isD_le : ∀ n, n < 256 → isD n = true → 48 ≤ n ∧ n ≤ 57 := by decide +kernel
theorem isL_le : ∀ n, n < 256 → isL n = true → 65 ≤ n ∧ n ≤ 122 := by decide +kernel
theorem m1q : iin (-1) 48 57 = false ∧ ltq (-1) = false := by decide +kernel
theorem sh48 : (((48 : Int32).toInt64 &&& 63).toBitVec.smod 64).toNat = 48 := by decide +kernel
theorem dig_lp {n s e : Nat} {Q : Option Value → ev_Mem → Prop} (ht : tpN N n) (he : e = rn (fun i => soN (byN N i) == 2) n s) (hen : e ≤ n) (hk : ∀ N2, nvO N N2 → N2.1 0 9 = nI s → N2.1 0 8 = nI e → N2.1 0 10 = nI 1 → N2.1 0 11 = nI (nuK (byN N) s (e - s)) → Q none N2) :
    ∀ p, p ≤ e → s ≤ p → ∀ N2, nvO N N2 → N2.1 0 9 = nI s → N2.1 0 8 = nI p → N2.1 0 10 = nI 1 → N2.1 0 11 = nI (nuK (byN N) s (p - s)) → Ev LM (d + 1) mX11_nextToken 85 [some (.ref 0), none] [] N2 Q := by
  have n3 := ht.1
  have ok := rn_ok (q := fun i => soN (byN N i) == 2) (n := n) (p := s)
  rw [← he] at ok
  refine dn ?_ (fun p hp ih => ?_)
  · intro hs N2 h1 h9 h8 h10 h11
    have ht2 := nvO_tp h1 ht
    refine gX11_nextToken_85 ?_
    rw [h8]
    rcases Nat.lt_or_ge e n with z | z
    · obtain ⟨b1, b2, b3⟩ := bt_in ht2 z
      rw [b2, nvO_by h1]
      rw [nvO_by h1] at b3
      have q : isD (byN N e) = false := by
        have := ok.1 z
        simp only [beq_eq_false_iff_ne] at this
        cases c : isD (byN N e) with
        | false => rfl
        | true => exact absurd ((soD _ b3).mpr c) this
      rw [fig_n _ b3, q]
      exact ⟨b1, fun _ => hk N2 h1 h9 h8 h10 h11, fun y => absurd y (by decide)⟩
    · obtain ⟨b1, b2⟩ := bt_out ht2 z (by omega)
      rw [b2, m1q.1]
      exact ⟨b1, fun _ => hk N2 h1 h9 h8 h10 h11, fun y => absurd y (by decide)⟩
  · intro hs N2 h1 h9 h8 h10 h11
    have ht2 := nvO_tp h1 ht
    obtain ⟨b1, b2, b3⟩ := bt_in ht2 (i := p) (by omega)
    rw [nvO_by h1] at b2 b3
    have q : isD (byN N p) = true := by
      have := ok.2 p hs hp
      simp only [beq_iff_eq] at this
      exact (soD _ b3).mp this
    have nb : nuK (byN N) s (p - s) ≤ 999999 := nuK_le _ (fun i hi => by
      have hb := tn_b ht (i := s + i) (by omega)
      have := ok.2 (s + i) (by omega) (by omega)
      simp only [beq_iff_eq] at this
      exact (isD_le _ hb.2 ((soD _ hb.2).mp this)).2)
    have q2 := isD_le _ b3 q
    have es : nuK (byN N) s (p + 1 - s) = if 99999 < nuK (byN N) s (p - s) then nuK (byN N) s (p - s) else 10 * nuK (byN N) s (p - s) + (byN N p - 48) := by
      rw [show p + 1 - s = (p - s) + 1 by omega, nuK, show s + (p - s) = p by omega]
    refine gX11_nextToken_85 ?_
    rw [h8, b2, fig_n _ b3, q, h11]
    refine ⟨b1, fun y => absurd y (by decide), fun _ => ⟨fun z => ⟨b1, fun N3 e3 N4 e4 => ?_⟩, fun z N3 e3 N4 e4 => ?_⟩⟩
    · have zz : nuK (byN N) s (p - s) ≤ 99999 := (nI_leI (b := 99999) (by omega) (by omega)).mp z
      rw [show (10 : Int32) = nI 10 from rfl, pk_mul, nI_add, show (48 : Int32) = nI 48 from rfl, pk_sub (by omega)] at e3
      have h38 : N3.1 0 8 = nI p := by rw [e3, wr_ne (by omega)]; exact h8
      rw [h38, nI_1] at e4
      have g3 : nvO N2 N3 := by rw [e3]; exact nvO_wr (by omega)
      have g4 : nvO N3 N4 := by rw [e4]; exact nvO_wr (by omega)
      refine ih (by omega) N4 ((h1.tr g3).tr g4) (by rw [e4, wr_ne (by omega), e3, wr_ne (by omega)]; exact h9) (by rw [e4, wr_same]) (by rw [e4, wr_ne (by omega), e3, wr_ne (by omega)]; exact h10) ?_
      rw [e4, wr_ne (by omega), e3, wr_same, es, if_neg (by omega)]
      congr 1; omega
    · have zz : 99999 < nuK (byN N) s (p - s) := by
        rcases Nat.lt_or_ge 99999 (nuK (byN N) s (p - s)) with w | w
        · exact w
        · exact absurd (nI_le (b := 99999) w (by omega)) z
      have h38 : N3.1 0 8 = nI p := by rw [e3, wr_ne (by omega)]; exact h8
      rw [h38, nI_1] at e4
      have g3 : nvO N2 N3 := by rw [e3]; exact nvO_wr (by omega)
      have g4 : nvO N3 N4 := by rw [e4]; exact nvO_wr (by omega)
      refine ih (by omega) N4 ((h1.tr g3).tr g4) (by rw [e4, wr_ne (by omega), e3, wr_ne (by omega)]; exact h9) (by rw [e4, wr_same]) (by rw [e4, wr_ne (by omega), e3, wr_ne (by omega)]; exact h10) ?_
      rw [e4, wr_ne (by omega), e3, wr_same, es, if_pos zz]
theorem let_lp {n s e : Nat} {Q : Option Value → ev_Mem → Prop} (ht : tpN N n) (he : e = rn (fun i => soN (byN N i) == 1) n s) (hen : e ≤ n) (hk : ∀ N2, nvO N N2 → N2.1 0 9 = nI s → N2.1 0 8 = nI e → N2.1 0 10 = nI 2 → N2.2 0 12 = lN (spK (byN N) s (e - s)) → Q none N2) :
    ∀ p, p ≤ e → s ≤ p → ∀ N2, nvO N N2 → N2.1 0 9 = nI s → N2.1 0 8 = nI p → N2.1 0 10 = nI 2 → N2.2 0 12 = lN (spK (byN N) s (p - s)) → Ev LM (d + 1) mX11_nextToken 168 [some (.ref 0), none] [] N2 Q := by
  have n3 := ht.1
  have ok := rn_ok (q := fun i => soN (byN N i) == 1) (n := n) (p := s)
  rw [← he] at ok
  refine dn ?_ (fun p hp ih => ?_)
  · intro hs N2 h1 h9 h8 h10 h11
    have ht2 := nvO_tp h1 ht
    refine gX11_nextToken_168 ?_
    rw [h8]
    rcases Nat.lt_or_ge e n with z | z
    · obtain ⟨b1, b2, b3⟩ := bt_in ht2 z
      rw [b2, nvO_by h1]
      rw [nvO_by h1] at b3
      have q : isL (byN N e) = false := by
        have := ok.1 z
        simp only [beq_eq_false_iff_ne] at this
        cases c : isL (byN N e) with
        | false => rfl
        | true => exact absurd ((soL _ b3).mpr c) this
      rw [ltq_n _ b3, q]
      exact ⟨b1, fun _ => hk N2 h1 h9 h8 h10 h11, fun y => absurd y (by decide)⟩
    · obtain ⟨b1, b2⟩ := bt_out ht2 z (by omega)
      rw [b2, m1q.2]
      exact ⟨b1, fun _ => hk N2 h1 h9 h8 h10 h11, fun y => absurd y (by decide)⟩
  · intro hs N2 h1 h9 h8 h10 h11
    have ht2 := nvO_tp h1 ht
    obtain ⟨b1, b2, b3⟩ := bt_in ht2 (i := p) (by omega)
    rw [nvO_by h1] at b2 b3
    have q : isL (byN N p) = true := by
      have := ok.2 p hs hp
      simp only [beq_iff_eq] at this
      exact (soL _ b3).mp this
    have nb : spK (byN N) s (p - s) < 2 ^ 61 := spK_lt _ (fun i hi => (tn_b ht (i := s + i) (by omega)).2)
    have es : spK (byN N) s (p + 1 - s) = if spK (byN N) s (p - s) / 2 ^ 48 = 0 then spK (byN N) s (p - s) * 256 + byN N p else 2 ^ 60 := by
      rw [show p + 1 - s = (p - s) + 1 by omega, spK, show s + (p - s) = p by omega]
    refine gX11_nextToken_168 ?_
    rw [h8, b2, ltq_n _ b3, q, h11, pf_shr sh48 (by omega)]
    have cz : lg_cmp (lN (spK (byN N) s (p - s) / 2 ^ 48)) 0 = 0 ↔ spK (byN N) s (p - s) / 2 ^ 48 = 0 := lN_z (by omega)
    refine ⟨b1, fun y => absurd y (by decide), fun _ => ⟨fun z => ⟨b1, fun N3 e3 N4 e4 => ?_⟩, fun z N3 e3 N4 e4 => ?_⟩⟩
    · have zz := cz.mp z
      have lt48 : spK (byN N) s (p - s) < 2 ^ 48 := by omega
      rw [show (8 : Int32) = nI 8 from rfl, wb_shl _ (by omega), nI_l (by omega), g_or (k := 8) (p := 2 ^ 8) rfl (by omega) (by omega)] at e3
      have h38 : N3.1 0 8 = nI p := by rw [e3]; exact h8
      rw [h38, nI_1] at e4
      have g3 : nvO N2 N3 := by rw [e3]; exact nvO_wl
      have g4 : nvO N3 N4 := by rw [e4]; exact nvO_wr (by omega)
      refine ih (by omega) N4 ((h1.tr g3).tr g4) (by rw [e4, wr_ne (by omega), e3]; exact h9) (by rw [e4, wr_same]) (by rw [e4, wr_ne (by omega), e3]; exact h10) ?_
      rw [e4, wr_two, e3, ev_wl_s, es, if_pos zz]
    · have zz : ¬ spK (byN N) s (p - s) / 2 ^ 48 = 0 := fun w => z (cz.mpr w)
      have h38 : N3.1 0 8 = nI p := by rw [e3]; exact h8
      rw [h38, nI_1] at e4
      have g3 : nvO N2 N3 := by rw [e3]; exact nvO_wl
      have g4 : nvO N3 N4 := by rw [e4]; exact nvO_wr (by omega)
      refine ih (by omega) N4 ((h1.tr g3).tr g4) (by rw [e4, wr_ne (by omega), e3]; exact h9) (by rw [e4, wr_same]) (by rw [e4, wr_ne (by omega), e3]; exact h10) ?_
      rw [e4, wr_two, e3, ev_wl_s, es, if_neg zz]
      rfl
end
