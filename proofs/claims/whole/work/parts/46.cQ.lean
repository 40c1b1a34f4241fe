/-! the model: least of a sentence, its words laid down -/
section
variable {d : Nat} {N : ev_Mem}
def chs (C : Nat → Nat → Nat) (kd : Nat → Int32) (W n f : Nat) : Nat → Nat
  | 0 => f
  | p + 1 => (bst (fun v => C (n - 1 - (p + 1)) v + btw kd (chs C kd W n f p) v) W).getD 0
theorem cpk_nx {kd se : Nat → Int32} {sn : Nat → Nat} {W : Nat} {row : Nat → Int32} {n k w : Nat} (h : cpk kd se sn W row n (k + 1) w < FARn) : (se w = row (n - 1 - (k + 1)) ∧ sn w < FARn) ∧ ∃ m, bst (fun v => cpk kd se sn W row n k v + btw kd w v) W = some m ∧ cpk kd se sn W row n k m < FARn ∧ cpk kd se sn W row n (k + 1) w = sn w + (cpk kd se sn W row n k m + btw kd w m) := by
  rw [cpk] at h ⊢
  by_cases h1 : se w = row (n - 1 - (k + 1)) ∧ sn w < FARn
  · rw [if_pos h1] at h ⊢
    by_cases h2 : bsv (fun v => cpk kd se sn W row n k v + btw kd w v) W < FARn
    · rw [if_pos h2]
      obtain ⟨m, hm, em⟩ := bsv_at h2
      refine ⟨h1, m, hm, ?_, by rw [← em]⟩
      have := (bst_lt hm).2
      omega
    · rw [if_neg h2] at h; omega
  · rw [if_neg h1] at h; omega
theorem chs_ok {kd se : Nat → Int32} {sn : Nat → Nat} {W : Nat} {row : Nat → Int32} {n f : Nat} (hf : f < W) (h0 : cpk kd se sn W row n (n - 1) f < FARn) : ∀ p, p < n → chs (cpk kd se sn W row n) kd W n f p < W ∧ cpk kd se sn W row n (n - 1 - p) (chs (cpk kd se sn W row n) kd W n f p) < FARn ∧ (p + 1 < n → bst (fun v => cpk kd se sn W row n (n - 1 - (p + 1)) v + btw kd (chs (cpk kd se sn W row n) kd W n f p) v) W = some (chs (cpk kd se sn W row n) kd W n f (p + 1)))
  | 0, hp => by
    refine ⟨hf, h0, fun h1 => ?_⟩
    have e : n - 1 = (n - 1 - (0 + 1)) + 1 := by omega
    rw [e] at h0
    obtain ⟨-, m, hm, -⟩ := cpk_nx h0
    show _ = some ((bst _ W).getD 0)
    rw [show chs (cpk kd se sn W row n) kd W n f 0 = f from rfl, hm]
    rfl
  | p + 1, hp => by
    obtain ⟨h1, h2, h3⟩ := chs_ok hf h0 p (by omega)
    have hb := h3 hp
    have e : n - 1 - p = (n - 1 - (p + 1)) + 1 := by omega
    rw [e] at h2
    obtain ⟨-, m, hm, hmF, -⟩ := cpk_nx h2
    rw [hb] at hm
    cases hm
    refine ⟨(bst_lt hb).1, hmF, fun h4 => ?_⟩
    have e2 : n - 1 - (p + 1) = (n - 1 - (p + 1 + 1)) + 1 := by omega
    rw [e2] at hmF
    obtain ⟨-, m2, hm2, -⟩ := cpk_nx hmF
    show _ = some ((bst _ W).getD 0)
    rw [hm2]
    rfl
def ofr (N N2 : ev_Mem) : Prop := (∀ k, k ≠ 12 → k ≠ 13 → N2.1 k = N.1 k) ∧ N2.2 = N.2
/-- the costs of sentence s in the model, by the row of stiffness -/
def cpN (N : ev_Mem) (sn : Nat → Nat) (W s n : Nat) : Nat → Nat → Nat := cpk (fun w => aw N w 0) (fun w => aw N w 1) sn W (fun q => N.1 1 (351 + 6 * s + 1 + q)) n
theorem kX11_leastOf {s n W : Nat} {sn : Nat → Nat} (hs : s < 8) (hn1 : 1 ≤ n) (hn5 : n ≤ 5) (hn : N.1 1 (351 + 6 * s) = nI n) (hW : N.1 1 0 = nI W) (hW24 : W ≤ 24) (hsn : ∀ w, w < W → N.1 11 w = nI (sn w) ∧ (sn w ≤ 99 ∨ sn w = FARn)) :
    Cl LM (d + 4) mX11_leastOf [.ref 0, .int (nI s)] N (fun r N2 => ofr N N2 ∧ ((bst (cpN N sn W s n (n - 1)) W = none ∧ r = some (.int (-1))) ∨ ∃ f, bst (cpN N sn W s n (n - 1)) W = some f ∧ r = some (.int (nI (cpN N sn W s n (n - 1) f))) ∧ ∀ p, p < n → N2.1 13 p = nI (chs (cpN N sn W s n) (fun w => aw N w 0) W n f p))) := by
  have e351 : (351 : Int32) + 6 * nI s = nI (351 + 6 * s) := by rw [show (351 : Int32) = nI 351 from rfl, show (6 : Int32) = nI 6 from rfl, pk_mul, nI_add]
  have i351 : vp_in ((351 : Int32) + 6 * nI s) 3315 := by rw [e351]; exact vp_in_nI (by omega) (by omega)
  have hs99 : ∀ w, w < W → sn w < FARn → sn w ≤ 99 := fun w hw h => by rcases (hsn w hw).2 with z | z; exact z; omega
  have hsb : ∀ w, w < W → sn w < 2 ^ 31 := fun w hw => by rcases (hsn w hw).2 with z | z; omega; rw [z]; unfold FARn; omega
  have hcb : ∀ k, k < 5 → ∀ w, w < W → cpN N sn W s n k w = FARn ∨ cpN N sn W s n k w ≤ 102 * (k + 1) := fun k hk w hw => cpk_b hs99 k (by omega) w hw
  have far : ∀ q, q < n → ∀ v, v < W → atN N s q v = false → cpN N sn W s n (n - 1 - q) v = FARn := by
    intro q hq v hv hat
    refine cpk_far (fun z => ?_)
    rw [(at_cpk (n := n) (W := W) (sn := sn) hq (hsn v hv).1 (hsb v hv)).mpr z] at hat
    cases hat
  refine Cl_of rfl (Nat.le_of_ble_eq_true rfl) rfl (gX11_leastOf_0 ⟨_, kX11_layRests (d := d) hs hn1 hn5 hn hW hW24 hsn, fun zr N1 q => ?_⟩)
  obtain ⟨q1, hf, ho⟩ := q
  rw [q1]
  have hat1 : ∀ q v, atN N1 s q v = atN N s q v := fun q v => atN_1 hf
  refine gX11_leastOf_5 ⟨_, kX11_nextOf (d := d + 1) (N := N1) (s := s) (p := 0) (W := W) (x := -1) (F := cpN N sn W s n (n - 1)) hs (by omega) (by rw [hf.1 1 (by omega)]; exact hW) hW24 (Or.inl rfl) (fun v hv hat => by
    rw [hat1] at hat
    have hc := hcb (n - 1) (by omega) v hv
    refine ⟨by unfold FARn at hc; omega, ?_⟩
    rw [nxv, if_pos rfl, ho 0 (Nat.le_refl _) (by omega) v hv hat]
    rfl) (fun v hv hat => by
    rw [hat1] at hat
    have := far 0 (by omega) v hv hat
    rw [show n - 1 - 0 = n - 1 from rfl] at this
    omega), fun zr zM q => ?_⟩
  rw [q.1, q.2]
  obtain ⟨o, eb⟩ : ∃ o, bst (cpN N sn W s n (n - 1)) W = o := ⟨_, rfl⟩
  cases o with
  | none =>
    refine gX11_leastOf_12 (s0 := onI (bst (cpN N sn W s n (n - 1)) W)) ⟨fun z => absurd (by rw [eb]; rfl) z, fun _ => ⟨⟨fun k h1 _ => hf.1 k h1, hf.2⟩, Or.inl ⟨eb, rfl⟩⟩⟩
  | some f =>
    obtain ⟨hfW, hfF⟩ := bst_lt eb
    have hok := chs_ok (kd := fun w => aw N w 0) (se := fun w => aw N w 1) (sn := sn) (row := fun q => N.1 1 (351 + 6 * s + 1 + q)) (n := n) hfW hfF
    have hne : ∀ m, m < 24 → ¬ nI m = -1 := fun m hm z => by
      have := congrArg Int32.toInt z
      rw [nI_toInt (by omega), I_m1] at this
      omega
    have eo : onI (bst (cpN N sn W s n (n - 1)) W) = nI f := by rw [eb]; rfl
    rw [eo]
    refine gX11_leastOf_12 (s0 := nI f) ⟨fun _ => ⟨vp_in_nI (by omega) (by omega), ?_⟩, fun z => absurd z (hne f (by omega))⟩
    have hatf : ∀ q, q < n → ∀ v, v < W → cpN N sn W s n (n - 1 - q) v < FARn → atN N s q v = true := by
      intro q hq v hv hlt
      cases e : atN N s q v with
      | true => rfl
      | false => have := far q hq v hv e; omega
    have er : N1.1 12 (nI f).toNatClampNeg = nI (cpN N sn W s n (n - 1) f) := by
      rw [nI_clamp (by omega)]
      have := ho 0 (Nat.le_refl _) (by omega) f hfW (hatf 0 (by omega) f hfW hfF)
      rw [Nat.mul_zero, Nat.zero_add] at this
      exact this
    rw [er]
    have lp : ∀ (j p : Nat) (N2 : ev_Mem) (x : Int32), p + j = n → ofr N1 N2 → N2.1 12 = N1.1 12 → (p < n → x = nI (chs (cpN N sn W s n) (fun w => aw N w 0) W n f p)) → (∀ q, q < p → N2.1 13 q = nI (chs (cpN N sn W s n) (fun w => aw N w 0) W n f q)) → Ev LM (d + 3 + 1) mX11_leastOf 30 [some (.ref 0), some (.int (nI s)), some (.int x), some (.int (nI (cpN N sn W s n (n - 1) f))), some (.int (nI p))] [] N2 (fun r N2 => ofr N N2 ∧ ((bst (cpN N sn W s n (n - 1)) W = none ∧ r = some (.int (-1))) ∨ ∃ f, bst (cpN N sn W s n (n - 1)) W = some f ∧ r = some (.int (nI (cpN N sn W s n (n - 1) f))) ∧ ∀ p, p < n → N2.1 13 p = nI (chs (cpN N sn W s n) (fun w => aw N w 0) W n f p))) := by
      intro j
      induction j with
      | zero =>
        intro p N2 x hp ho2 h12 hx hc
        obtain rfl : p = n := by omega
        refine gX11_leastOf_30 ⟨i351, fun _ => ⟨⟨fun k h1 h2 => (ho2.1 k h1 h2).trans (hf.1 k h1), ho2.2.trans hf.2⟩, Or.inr ⟨f, eb, rfl, hc⟩⟩, fun z => absurd ?_ z⟩
        rw [e351, nI_clamp (by omega), ho2.1 1 (by omega) (by omega), hf.1 1 (by omega), hn]
        exact nI_le (Nat.le_refl _) (by omega)
      | succ j ih =>
        intro p N2 x hp ho2 h12 hx hc
        have hx := hx (by omega)
        obtain ⟨hcW, hcF, hcN⟩ := hok p (by omega)
        refine gX11_leastOf_30 ⟨i351, fun z => ?_, fun _ => ⟨vp_in_nI (by omega) (by omega), fun M1 e1 => ?_⟩⟩
        · rw [e351, nI_clamp (by omega), ho2.1 1 (by omega) (by omega), hf.1 1 (by omega), hn] at z
          exact absurd z (nI_ge (by omega) (by omega))
        · rw [nI_clamp (by omega)] at e1
          have o1 : ofr N1 M1 := by rw [e1]; exact ⟨fun k h1 h2 => by rw [wr_cell h2]; exact ho2.1 k h1 h2, ho2.2⟩
          have h121 : M1.1 12 = N1.1 12 := by rw [e1, wr_cell (by omega)]; exact h12
          have hc1 : ∀ q, q < p + 1 → M1.1 13 q = nI (chs (cpN N sn W s n) (fun w => aw N w 0) W n f q) := by
            intro q hq
            rw [e1, wr_row]
            by_cases eq : q = p
            · subst eq; rw [pk_us, hx]
            · rw [pk_un eq]; exact hc q (by omega)
          have a1 : M1.1 1 = N.1 1 := (o1.1 1 (by omega) (by omega)).trans (hf.1 1 (by omega))
          have a11 : M1.1 11 = N.1 11 := (o1.1 11 (by omega) (by omega)).trans (hf.1 11 (by omega))
          have hat2 : ∀ q v, atN M1 s q v = atN N s q v := fun q v => by unfold atN; rw [aw_1 a1, a1, a11]
          refine ⟨i351, fun z => ?_, fun z => ?_⟩
          · rw [e351, nI_clamp (by omega), a1, hn, nI_1] at z
            have : n ≤ p + 1 := (nI_leI (by omega) (by omega)).mp z
            rw [nI_1]
            exact ih (p + 1) M1 (-1) (by omega) o1 h121 (fun h => absurd h (by omega)) hc1
          · rw [e351, nI_clamp (by omega), a1, hn, nI_1] at z
            have hpn : p + 1 < n := by
              rcases Nat.lt_or_ge (p + 1) n with q | q
              · exact q
              · exact absurd (nI_le q (by omega)) z
            refine ⟨_, by
              rw [nI_1, hx]
              exact kX11_nextOf (d := d + 1) (N := M1) (s := s) (p := p + 1) (W := W) (F := fun v => cpN N sn W s n (n - 1 - (p + 1)) v + btw (fun w => aw N w 0) (chs (cpN N sn W s n) (fun w => aw N w 0) W n f p) v) hs (by omega) (by rw [a1]; exact hW) hW24 (Or.inr ⟨_, by have : chs (cpN N sn W s n) (fun w => aw N w 0) W n f p < W := hcW; omega, rfl⟩) (fun v hv hat => by
                rw [hat2] at hat
                have hc := hcb (n - 1 - (p + 1)) (by omega) v hv
                have hbt := btw_le (kd := fun w => aw N w 0) (w := chs (cpN N sn W s n) (fun w => aw N w 0) W n f p) (v := v)
                have hcW2 : chs (cpN N sn W s n) (fun w => aw N w 0) W n f p < W := hcW
                refine ⟨by unfold FARn at hc; omega, ?_⟩
                rw [nxv, if_neg (hne _ (by omega)), h121, ho (p + 1) (by omega) hpn v hv hat, nI_clamp (by omega), aw_1 a1, bhd_btw (kd := fun w => aw N w 0) (by omega) (by omega), nI_add]
                rfl) (fun v hv hat => by
                rw [hat2] at hat
                have := far (p + 1) hpn v hv hat
                omega), fun zr zM q => ?_⟩
            rw [q.1, q.2]
            refine gX11_leastOf_70 (s0 := _) ?_
            rw [nI_1]
            refine ih (p + 1) M1 _ (by omega) o1 h121 (fun _ => ?_) hc1
            have := hcN hpn
            unfold cpN
            rw [this]
            rfl
    exact lp n 0 N1 (nI f) (by omega) ⟨fun _ _ _ => rfl, rfl⟩ rfl (fun _ => rfl) (fun q hq => absurd hq (by omega))
end
