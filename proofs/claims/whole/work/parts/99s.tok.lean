/-! the model's next token; words on both sides -/
section
variable {d : Nat} {M N : ev_Mem}
theorem so_sg : ∀ n, n < 256 → isL n = false → isD n = false → soN n = if isS n = true then n else 3 := by decide +kernel
theorem sg_12 : ∀ n, n < 256 → isL n = false → isD n = false → soN n ≠ 1 ∧ soN n ≠ 2 := by decide +kernel
theorem kX11_nextToken {n p : Nat} (ht : tpN N n) (hp : N.1 0 8 = nI p) (hpn : p ≤ n) : Cl LM (d + 1) mX11_nextToken [.ref 0] N (fun r N2 => r = none ∧ nvO N N2 ∧ mkS N2 (byN N) n (skp (byN N) n p)) := by
  have n3 := ht.1
  refine Cl_of rfl (Nat.le_of_ble_eq_true rfl) rfl ?_
  have at39 : ∀ s, s ≤ n → ∀ N2, nvO N N2 → N2.1 0 8 = nI s → Ev LM (d + 1) mX11_nextToken 39 [some (.ref 0), none] [] N2 (fun r N2 => r = none ∧ nvO N N2 ∧ mkS N2 (byN N) n s) := by
    intro s hs N2 h1 h8
    refine gX11_nextToken_39 fun N3 e3 => ?_
    have g3 : nvO N2 N3 := by rw [e3]; exact nvO_wr (by omega)
    have f3 := h1.tr g3
    have ht3 := nvO_tp f3 ht
    have h38 : N3.1 0 8 = nI s := by rw [e3, wr_ne (by omega)]; exact h8
    have h39 : N3.1 0 9 = nI s := by rw [e3, wr_same, h8]
    rw [h38]
    rcases Nat.lt_or_ge s n with z | z
    · obtain ⟨b1, b2, b3⟩ := bt_in ht3 z
      rw [b2, nvO_by f3]
      rw [nvO_by f3] at b3
      refine ⟨b1, fun _ => ?_, fun y => absurd (nI_pos' (by omega)) y⟩
      refine gX11_nextToken_68 ?_
      rw [fig_n _ b3, ltq_n _ b3, sgq_n _ b3]
      refine ⟨fun nd => ⟨fun nl => ?_, fun il N4 e4 N5 e5 => ?_⟩, fun idg N4 e4 N5 e5 => ?_⟩
      · obtain ⟨k1, k2⟩ := sg_12 _ b3 nl nd
        have so := so_sg _ b3 nl nd
        have go : ∀ N4, N4 = ev_wr N3 0 10 (nI (soN (byN N s))) → Ev LM (d + 1) mX11_nextToken 250 [some (.ref 0), some (.int (nI (byN N s)))] [] N4 (fun r N2 => r = none ∧ nvO N N2 ∧ mkS N2 (byN N) n s) := fun N4 e4 => by
          have g4 : nvO N3 N4 := by rw [e4]; exact nvO_wr (by omega)
          refine gX11_nextToken_250 fun N5 e5 => ?_
          have h48 : N4.1 0 8 = nI s := by rw [e4, wr_ne (by omega)]; exact h38
          rw [h48, nI_1] at e5
          have g5 : nvO N4 N5 := by rw [e5]; exact nvO_wr (by omega)
          have f5 := (f3.tr g4).tr g5
          have h58 : N5.1 0 8 = nI (s + 1) := by rw [e5, wr_same]
          have h59 : N5.1 0 9 = nI s := by rw [e5, wr_ne (by omega), e4, wr_ne (by omega)]; exact h39
          have h510 : N5.1 0 10 = nI (soN (byN N s)) := by rw [e5, wr_ne (by omega), e4, wr_same]
          have ht5 := nvO_tp f5 ht
          have plain : ¬ ((byN N s == 60 || byN N s == 62) && (decide (s + 1 < n) && byN N (s + 1) == 61)) = true → nvO N N5 ∧ mkS N5 (byN N) n s := fun hn2 => by
            have es : srt (byN N) n s = soN (byN N s) := by unfold srt; rw [if_neg (show ¬ n ≤ s by omega), if_neg hn2]
            refine ⟨f5, h59, ?_, ?_, fun q => ?_, fun q => ?_⟩
            · rw [h58]; unfold nxt; rw [if_neg (show ¬ n ≤ s by omega), if_neg k1, if_neg k2, if_neg hn2]
            · rw [h510, es]; unfold tkN; rw [if_neg k1, if_neg k2]
            · rw [es] at q; exact absurd q k2
            · rw [es] at q; exact absurd q k1
          have at272 : (byN N s = 60 ∨ byN N s = 62) → Ev LM (d + 1) mX11_nextToken 272 [some (.ref 0), some (.int (nI (byN N s)))] [] N5 (fun r N2 => r = none ∧ nvO N N2 ∧ mkS N2 (byN N) n s) := fun h6 => by
            refine gX11_nextToken_272 ?_
            rw [h58]
            rcases Nat.lt_or_ge (s + 1) n with y | y
            · obtain ⟨c1, c2, c3⟩ := bt_in ht5 y
              rw [c2, nvO_by f5]
              rw [nvO_by f5] at c3
              refine ⟨c1, fun w => ⟨rfl, plain (fun v => ?_)⟩, fun w => ?_⟩
              · simp only [Bool.and_eq_true, beq_iff_eq] at v
                exact w (by rw [v.2.2]; rfl)
              · have y61 : byN N (s + 1) = 61 := (nI_eq (b := 61) (by omega) (by omega)).mp w
                have tw : ((byN N s == 60 || byN N s == 62) && (decide (s + 1 < n) && byN N (s + 1) == 61)) = true := by
                  rw [y61, decide_eq_true y]
                  rcases h6 with e | e <;> rw [e] <;> rfl
                have es : srt (byN N) n s = if byN N s = 60 then 4 else 5 := by unfold srt; rw [if_neg (show ¬ n ≤ s by omega), if_pos tw]
                have fin : ∀ v N6, N6 = ev_wr N5 0 10 v → ∀ N7, N7 = ev_wr N6 0 8 (N6.1 0 8 + 1) → v = nI (if byN N s = 60 then 4 else 5) → nvO N N7 ∧ mkS N7 (byN N) n s := fun v N6 e6 N7 e7 ev => by
                  have h68 : N6.1 0 8 = nI (s + 1) := by rw [e6, wr_ne (by omega)]; exact h58
                  rw [h68, nI_1] at e7
                  have g6 : nvO N5 N6 := by rw [e6]; exact nvO_wr (by omega)
                  have g7 : nvO N6 N7 := by rw [e7]; exact nvO_wr (by omega)
                  refine ⟨(f5.tr g6).tr g7, by rw [e7, wr_ne (by omega), e6, wr_ne (by omega)]; exact h59, ?_, ?_, fun q => ?_, fun q => ?_⟩
                  · rw [e7, wr_same]; unfold nxt; rw [if_neg (show ¬ n ≤ s by omega), if_neg k1, if_neg k2, if_pos tw]
                  · rw [e7, wr_ne (by omega), e6, wr_same, ev, es]
                    split <;> rfl
                  · rw [es] at q; split at q <;> omega
                  · rw [es] at q; split at q <;> omega
                refine ⟨fun v N6 e6 N7 e7 => ⟨rfl, fin _ N6 e6 N7 e7 ?_⟩, fun v N6 e6 N7 e7 => ⟨rfl, fin _ N6 e6 N7 e7 ?_⟩⟩
                · have : byN N s ≠ 60 := fun q => v (by rw [q]; rfl)
                  rw [if_neg this]; rfl
                · rw [if_pos ((nI_eq (b := 60) (by omega) (by omega)).mp v)]; rfl
            · obtain ⟨c1, c2⟩ := bt_out ht5 y (by omega)
              rw [c2]
              refine ⟨c1, fun _ => ⟨rfl, plain (fun v => ?_)⟩, fun w => absurd w (by decide)⟩
              simp only [Bool.and_eq_true, decide_eq_true_eq] at v
              omega
          refine ⟨fun y => at272 (Or.inl ((nI_eq (b := 60) (by omega) (by omega)).mp y)), fun y => ⟨fun w => ⟨rfl, plain (fun v => ?_)⟩, fun w => at272 (Or.inr ((nI_eq (b := 62) (by omega) (by omega)).mp w))⟩⟩
          simp only [Bool.and_eq_true, Bool.or_eq_true, beq_iff_eq] at v
          rcases v.1 with e | e
          · exact y (by rw [e]; rfl)
          · exact w (by rw [e]; rfl)
        refine ⟨fun ns N4 e4 => go N4 (by rw [e4, so, if_neg (by rw [ns]; decide)]; rfl), fun ys N4 e4 => go N4 (by rw [e4, so, if_pos ys])⟩
      · have s1 : soN (byN N s) = 1 := (soL _ b3).mpr il
        have n60 : ¬ (byN N s = 60) := fun y => by rw [(so60 _ b3).mpr y] at s1; omega
        have n62 : ¬ (byN N s = 62) := fun y => by rw [(so62 _ b3).mpr y] at s1; omega
        have es : srt (byN N) n s = 1 := by unfold srt; rw [if_neg (show ¬ n ≤ s by omega), if_neg (by simp [n60, n62]), s1]
        have en : nxt (byN N) n s = rn (fun i => soN (byN N i) == 1) n s := by unfold nxt; rw [if_neg (show ¬ n ≤ s by omega), if_pos s1, rn_s z (by simp only [beq_iff_eq]; exact s1)]
        have el := nxt_le (b := byN N) (n := n) (s := s) hs
        have g4 : nvO N3 N4 := by rw [e4]; exact nvO_wr (by omega)
        have g5 : nvO N4 N5 := by rw [e5]; exact nvO_wl
        refine let_lp (e := nxt (byN N) n s) (s := s) ht en el.2.1 (fun N6 q1 q9 q8 q10 q12 => ⟨rfl, q1, q9, q8, by rw [q10, es]; rfl, fun q => by rw [es] at q; omega, fun _ => q12⟩) s el.1 (Nat.le_refl _) N5 ((f3.tr g4).tr g5) (by rw [e5]; show N4.1 0 9 = _; rw [e4, wr_ne (by omega)]; exact h39) (by rw [e5]; show N4.1 0 8 = _; rw [e4, wr_ne (by omega)]; exact h38) (by rw [e5]; show N4.1 0 10 = _; rw [e4, wr_same]; rfl) (by rw [e5, ev_wl_s, Nat.sub_self]; rfl)
      · have s2 : soN (byN N s) = 2 := (soD _ b3).mpr idg
        have n60 : ¬ (byN N s = 60) := fun y => by rw [(so60 _ b3).mpr y] at s2; omega
        have n62 : ¬ (byN N s = 62) := fun y => by rw [(so62 _ b3).mpr y] at s2; omega
        have es : srt (byN N) n s = 2 := by unfold srt; rw [if_neg (show ¬ n ≤ s by omega), if_neg (by simp [n60, n62]), s2]
        have en : nxt (byN N) n s = rn (fun i => soN (byN N i) == 2) n s := by unfold nxt; rw [if_neg (show ¬ n ≤ s by omega), if_neg (by omega), if_pos s2, rn_s z (by simp only [beq_iff_eq]; exact s2)]
        have el := nxt_le (b := byN N) (n := n) (s := s) hs
        have g4 : nvO N3 N4 := by rw [e4]; exact nvO_wr (by omega)
        have g5 : nvO N4 N5 := by rw [e5]; exact nvO_wr (by omega)
        refine dig_lp (e := nxt (byN N) n s) (s := s) ht en el.2.1 (fun N6 q1 q9 q8 q10 q11 => ⟨rfl, q1, q9, q8, by rw [q10, es]; rfl, fun _ => q11, fun q => by rw [es] at q; omega⟩) s el.1 (Nat.le_refl _) N5 ((f3.tr g4).tr g5) (by rw [e5, wr_ne (by omega), e4, wr_ne (by omega)]; exact h39) (by rw [e5, wr_ne (by omega), e4, wr_ne (by omega)]; exact h38) (by rw [e5, wr_ne (by omega), e4, wr_same]; rfl) (by rw [e5, wr_same, Nat.sub_self]; rfl)
    · obtain ⟨b1, b2⟩ := bt_out ht3 z (by omega)
      rw [b2]
      refine ⟨b1, fun y => absurd y (by decide), fun _ N4 e4 => ?_⟩
      have g4 : nvO N3 N4 := by rw [e4]; exact nvO_wr (by omega)
      have es : srt (byN N) n s = 0 := by unfold srt; rw [if_pos z]
      refine ⟨rfl, f3.tr g4, by rw [e4, wr_ne (by omega)]; exact h39, ?_, by rw [e4, wr_same, es]; rfl, fun q => by rw [es] at q; omega, fun q => by rw [es] at q; omega⟩
      rw [e4, wr_ne (by omega)]; unfold nxt; rw [if_pos z]; exact h38
  have lp : ∀ q, q ≤ n → ∀ N2, nvO N N2 → N2.1 0 8 = nI q → Ev LM (d + 1) mX11_nextToken 0 [some (.ref 0), none] [] N2 (fun r N2 => r = none ∧ nvO N N2 ∧ mkS N2 (byN N) n (skp (byN N) n q)) := by
    refine dn ?_ (fun q hq ih => ?_)
    · intro N2 h1 h8
      have ht2 := nvO_tp h1 ht
      obtain ⟨b1, b2⟩ := bt_out ht2 (Nat.le_refl _) (by omega)
      refine gX11_nextToken_0 ?_
      rw [h8, b2]
      refine ⟨b1, fun y => absurd y (by decide), fun _ => ⟨b1, fun _ => ?_, fun y => absurd y (by decide)⟩⟩
      rw [show skp (byN N) n n = n from rn_e (by omega)]
      exact at39 n (Nat.le_refl _) N2 h1 h8
    · intro N2 h1 h8
      have ht2 := nvO_tp h1 ht
      obtain ⟨b1, b2, b3⟩ := bt_in ht2 hq
      rw [nvO_by h1] at b2 b3
      have nx : (byN N q == 32 || byN N q == 10) = true → ∀ N3, N3 = ev_wr N2 0 8 (nI q + 1) → Ev LM (d + 1) mX11_nextToken 0 [some (.ref 0), none] [] N3 (fun r N2 => r = none ∧ nvO N N2 ∧ mkS N2 (byN N) n (skp (byN N) n q)) := fun hb N3 e3 => by
        rw [nI_1] at e3
        rw [show skp (byN N) n q = skp (byN N) n (q + 1) from rn_s hq hb]
        have g3 : nvO N2 N3 := by rw [e3]; exact nvO_wr (by omega)
        exact ih N3 (h1.tr g3) (by rw [e3, wr_same])
      refine gX11_nextToken_0 ?_
      rw [h8, b2]
      refine ⟨b1, fun z N3 e3 => nx ?_ N3 e3, fun z => ⟨b1, fun y => ?_, fun y N3 e3 => nx ?_ N3 e3⟩⟩
      · rw [(nI_eq (b := 32) (by omega) (by omega)).mp z]; rfl
      · have n32 : byN N q ≠ 32 := fun w => z (by rw [w]; rfl)
        have n10 : byN N q ≠ 10 := fun w => y (by rw [w]; rfl)
        rw [show skp (byN N) n q = q from rn_e (fun w => by have := w.2; simp [n32, n10] at this)]
        exact at39 q (by omega) N2 h1 h8
      · rw [(nI_eq (b := 10) (by omega) (by omega)).mp y]; rfl
  exact lp p hpn N nvO.rf hp
end
