/-! the class's tokens -/
section
variable {d : Nat} {M N : ev_Mem}
def byM (M : ev_Mem) (i : Nat) : Nat := (M.1 2 i).toNatClampNeg
def tpK (M : ev_Mem) (n : Nat) : Prop := n ≤ 300 ∧ M.1 1 1 = nI n ∧ ∀ i, i < n → upto (M.1 2 i) 255
def avO (M M2 : ev_Mem) : Prop := (∀ k, k ≠ 81 → M2.1 k = M.1 k) ∧ ∀ j, j < 5 ∨ 7 < j → M2.1 81 j = M.1 81 j
def tkS (M : ev_Mem) (b : Nat → Nat) (n s : Nat) : Prop := M.1 81 5 = nI (srt b n s) ∧ M.1 81 6 = nI s ∧ M.1 81 7 = nI (nxt b n s)
theorem avO.rf : avO M M := ⟨fun _ _ => rfl, fun _ _ => rfl⟩
theorem avO.tr {M1 M2 : ev_Mem} (h : avO M M1) (k : avO M1 M2) : avO M M2 := ⟨fun i hi => (k.1 i hi).trans (h.1 i hi), fun j hj => (k.2 j hj).trans (h.2 j hj)⟩
theorem avO_wr {j : Nat} {v : Int32} (h : 5 ≤ j ∧ j ≤ 7) : avO M (ev_wr M 81 j v) := ⟨fun k hk => wr_cell hk, fun i hi => wr_ne (by omega)⟩
theorem tp_b {n i : Nat} (h : tpK M n) (hi : i < n) : M.1 2 i = nI (byM M i) ∧ byM M i < 256 := by
  obtain ⟨c, hc, e⟩ := h.2.2 i hi
  unfold byM
  rw [e, nI_clamp (by omega)]
  exact ⟨rfl, by omega⟩
theorem so60 : ∀ n, n < 256 → (soN n = 60 ↔ n = 60) := by decide +kernel
theorem so62 : ∀ n, n < 256 → (soN n = 62 ↔ n = 62) := by decide +kernel
theorem avO_tp {M2 : ev_Mem} {n : Nat} (h : avO M M2) (k : tpK M n) : tpK M2 n := ⟨k.1, by rw [h.1 1 (by omega)]; exact k.2.1, by rw [h.1 2 (by omega)]; exact k.2.2⟩
theorem avO_by {M2 : ev_Mem} (h : avO M M2) : byM M2 = byM M := funext fun i => by unfold byM; rw [h.1 2 (by omega)]
theorem adv_lp {n s c : Nat} {Q : Option Value → ev_Mem → Prop} (ht : tpK M n) (hc : c < 256) (hk : ∀ M2, avO M M2 → M2.1 81 5 = nI c → M2.1 81 6 = nI s → M2.1 81 7 = nI (rn (fun i => soN (byM M i) == c) n (s + 1)) → Q none M2) :
    ∀ p, p ≤ n → rn (fun i => soN (byM M i) == c) n p = rn (fun i => soN (byM M i) == c) n (s + 1) → ∀ M2, avO M M2 → M2.1 81 5 = nI c → M2.1 81 6 = nI s → M2.1 81 7 = nI p → Ev LX (d + 1) mX4_advance 134 [some (.ref 81)] [] M2 Q := by
  have n3 := ht.1
  refine dn ?_ (fun p hp ih => ?_)
  · intro e M2 h1 h5 h6 h7
    refine gX4_advance_134 ⟨fun _ => hk M2 h1 h5 h6 (by rw [h7, ← e, rn_e (by omega)]), fun z => absurd ?_ z⟩
    rw [h7, (avO_tp h1 ht).2.1]; exact nI_le (Nat.le_refl _) (by omega)
  · intro e M2 h1 h5 h6 h7
    have ht2 := avO_tp h1 ht
    obtain ⟨b1, b2⟩ := tp_b ht2 hp
    refine gX4_advance_134 ⟨fun z => ?_, fun _ => ?_⟩
    · rw [h7, ht2.2.1] at z; exact absurd z (nI_ge hp (by omega))
    · rw [h7, nI_clamp (by omega), h5, b1, soI_n b2, avO_by h1]
      rw [avO_by h1] at b2
      have hs := soN_lt _ b2
      refine ⟨vp_in_nI (by omega) (by omega), ⟨_, by omega, rfl⟩, fun z => ?_, fun z M3 e3 => ?_⟩
      · refine hk M2 h1 h5 h6 ?_
        rw [h7, ← e, rn_e (fun y => ?_)]
        have y2 := y.2
        simp only [beq_iff_eq] at y2
        exact z (by rw [y2])
      · have z2 : soN (byM M p) = c := (nI_eq (by omega) (by omega)).mp z
        rw [nI_1] at e3
        refine ih (by rw [← e, ← rn_s hp (by simp only [beq_iff_eq]; exact z2)]) M3 (h1.tr (by rw [e3]; exact avO_wr (by omega))) (by rw [e3, wr_ne (by omega)]; exact h5) (by rw [e3, wr_ne (by omega)]; exact h6) (by rw [e3, wr_same])
theorem kX4_advance {n p : Nat} (ht : tpK M n) (hp : M.1 81 7 = nI p) (hpn : p ≤ n) : Cl LX (d + 1) mX4_advance [.ref 81] M (fun r M2 => r = none ∧ avO M M2 ∧ tkS M2 (byM M) n (skp (byM M) n p)) := by
  have n3 := ht.1
  refine Cl_of rfl (Nat.le_of_ble_eq_true rfl) rfl ?_
  have at61 : ∀ s, s ≤ n → ∀ M2, avO M M2 → M2.1 81 7 = nI s → Ev LX (d + 1) mX4_advance 61 [some (.ref 81)] [] M2 (fun r M2 => r = none ∧ avO M M2 ∧ tkS M2 (byM M) n s) := by
    intro s hs M2 h1 h7
    have ht2 := avO_tp h1 ht
    refine gX4_advance_61 fun M3 e3 => ?_
    have f3 : avO M M3 := h1.tr (by rw [e3]; exact avO_wr (by omega))
    have ht3 := avO_tp f3 ht
    have h37 : M3.1 81 7 = nI s := by rw [e3, wr_ne (by omega)]; exact h7
    have h36 : M3.1 81 6 = nI s := by rw [e3, wr_same, h7]
    rw [h37, ht3.2.1]
    refine ⟨fun z => ?_, fun z M4 e4 => ?_⟩
    · have hsn : s < n := (nI_ltI (by omega) (by omega)).mp z
      obtain ⟨b1, b2⟩ := tp_b ht3 hsn
      rw [nI_clamp (by omega), b1, soI_n b2, avO_by f3]
      rw [avO_by f3] at b1 b2
      have hso := soN_lt _ b2
      refine ⟨vp_in_nI (by omega) (by omega), ⟨_, by omega, rfl⟩, fun M4 e4 M5 e5 => ?_⟩
      have h47 : M4.1 81 7 = nI s := by rw [e4, wr_ne (by omega)]; exact h37
      rw [h47, nI_1] at e5
      have g4 : avO M3 M4 := by rw [e4]; exact avO_wr (by omega)
      have g5 : avO M4 M5 := by rw [e5]; exact avO_wr (by omega)
      have f5 : avO M M5 := (f3.tr g4).tr g5
      have h55 : M5.1 81 5 = nI (soN (byM M s)) := by rw [e5, wr_ne (by omega), e4, wr_same]
      have h56 : M5.1 81 6 = nI s := by rw [e5, wr_ne (by omega), e4, wr_ne (by omega)]; exact h36
      have h57 : M5.1 81 7 = nI (s + 1) := by rw [e5, wr_same]
      have ht5 := avO_tp f5 ht
      rw [h55]
      have word : ∀ c, c < 3 → 0 < c → soN (byM M s) = c → Ev LX (d + 1) mX4_advance 134 [some (.ref 81)] [] M5 (fun r M2 => r = none ∧ avO M M2 ∧ tkS M2 (byM M) n s) := fun c c3 c0 ec => by
        refine adv_lp (c := c) (s := s) ht (by omega) (fun M6 g1 g5 g6 g7 => ⟨rfl, g1, ?_, g6, ?_⟩) (s + 1) (by omega) rfl M5 f5 (by rw [h55, ec]) h56 h57
        · rw [g5]
          unfold srt
          have n60 : ¬ (byM M s = 60) := fun y => by rw [(so60 _ b2).mpr y] at ec; omega
          have n62 : ¬ (byM M s = 62) := fun y => by rw [(so62 _ b2).mpr y] at ec; omega
          rw [if_neg (by omega), if_neg (by simp [n60, n62]), ec]
        · rw [g7]
          unfold nxt
          rw [if_neg (by omega)]
          by_cases c1 : c = 1
          · subst c1; rw [if_pos ec]
          · have c2 : c = 2 := by omega
            subst c2; rw [if_neg (by omega), if_pos ec]
      have other : soN (byM M s) ≠ 1 → soN (byM M s) ≠ 2 → Ev LX (d + 1) mX4_advance 183 [some (.ref 81)] [] M5 (fun r M2 => r = none ∧ avO M M2 ∧ tkS M2 (byM M) n s) := fun k1 k2 => by
        have plain : ¬ ((byM M s == 60 || byM M s == 62) && (decide (s + 1 < n) && byM M (s + 1) == 61)) = true → avO M M5 ∧ tkS M5 (byM M) n s := fun hn2 => by
          refine ⟨f5, ?_, h56, ?_⟩
          · rw [h55]; unfold srt; rw [if_neg (by omega), if_neg hn2]
          · rw [h57]; unfold nxt; rw [if_neg (by omega), if_neg k1, if_neg k2, if_neg hn2]
        have at201 : (byM M s = 60 ∨ byM M s = 62) → Ev LX (d + 1) mX4_advance 201 [some (.ref 81)] [] M5 (fun r M2 => r = none ∧ avO M M2 ∧ tkS M2 (byM M) n s) := fun h6 => by
          refine gX4_advance_201 ?_
          rw [h57, ht5.2.1, h55]
          refine ⟨fun z => ⟨rfl, plain (fun y => ?_)⟩, fun z => ?_⟩
          · simp only [Bool.and_eq_true, decide_eq_true_eq] at y
            exact absurd z (nI_ge y.2.1 (by omega))
          · have hs1 : s + 1 < n := by
              rcases Nat.lt_or_ge (s + 1) n with q | q
              · exact q
              · exact absurd (nI_le q (by omega)) z
            obtain ⟨d1, d2⟩ := tp_b ht5 hs1
            rw [nI_clamp (by omega), d1, avO_by f5]
            rw [avO_by f5] at d2
            refine ⟨vp_in_nI (by omega) (by omega), fun y => ⟨rfl, plain (fun w => ?_)⟩, fun y => ?_⟩
            · simp only [Bool.and_eq_true, beq_iff_eq] at w
              exact y (by rw [w.2.2]; rfl)
            · have y61 : byM M (s + 1) = 61 := (nI_eq (b := 61) (by omega) (by omega)).mp y
              have tw : ((byM M s == 60 || byM M s == 62) && (decide (s + 1 < n) && byM M (s + 1) == 61)) = true := by
                rw [y61, decide_eq_true hs1]
                rcases h6 with e | e <;> rw [e] <;> rfl
              have fin : ∀ v M6, M6 = ev_wr M5 81 5 v → ∀ M7, M7 = ev_wr M6 81 7 (M6.1 81 7 + 1) → v = nI (if byM M s = 60 then 4 else 5) → avO M M7 ∧ tkS M7 (byM M) n s := fun v M6 e6 M7 e7 ev => by
                have h67 : M6.1 81 7 = nI (s + 1) := by rw [e6, wr_ne (by omega)]; exact h57
                rw [h67, nI_1] at e7
                have g6 : avO M5 M6 := by rw [e6]; exact avO_wr (by omega)
                have g7 : avO M6 M7 := by rw [e7]; exact avO_wr (by omega)
                refine ⟨(f5.tr g6).tr g7, ?_, ?_, ?_⟩
                · rw [e7, wr_ne (by omega), e6, wr_same, ev]; unfold srt; rw [if_neg (show ¬ n ≤ s by omega), if_pos tw]
                · rw [e7, wr_ne (by omega), e6, wr_ne (by omega)]; exact h56
                · rw [e7, wr_same]; unfold nxt; rw [if_neg (by omega), if_neg k1, if_neg k2, if_pos tw]
              refine ⟨fun w M6 e6 M7 e7 => ⟨rfl, fin _ M6 e6 M7 e7 ?_⟩, fun w M6 e6 M7 e7 => ⟨rfl, fin _ M6 e6 M7 e7 ?_⟩⟩
              · have : byM M s ≠ 60 := fun q => w (by rw [(so60 _ b2).mpr q]; rfl)
                rw [if_neg this]; rfl
              · have : soN (byM M s) = 60 := (nI_eq (b := 60) (by omega) (by omega)).mp w
                rw [if_pos ((so60 _ b2).mp this)]; rfl
        refine gX4_advance_183 ?_
        rw [h55]
        refine ⟨fun z => at201 (Or.inl ((so60 _ b2).mp ((nI_eq (b := 60) (by omega) (by omega)).mp z))), fun z => ⟨fun y => ⟨rfl, plain (fun w => ?_)⟩, fun y => at201 (Or.inr ((so62 _ b2).mp ((nI_eq (b := 62) (by omega) (by omega)).mp y)))⟩⟩
        simp only [Bool.and_eq_true, Bool.or_eq_true, beq_iff_eq] at w
        rcases w.1 with e | e
        · exact z (by rw [(so60 _ b2).mpr e]; rfl)
        · exact y (by rw [(so62 _ b2).mpr e]; rfl)
      refine ⟨fun y => word 1 (by omega) (by omega) ((nI_eq (b := 1) (by omega) (by omega)).mp y), fun y => ⟨fun w => other (fun q => y (by rw [q]; rfl)) (fun q => w (by rw [q]; rfl)), fun w => word 2 (by omega) (by omega) ((nI_eq (b := 2) (by omega) (by omega)).mp w)⟩⟩
    · have hsn : n ≤ s := by
        rcases Nat.lt_or_ge s n with q | q
        · exact absurd (nI_lt q (by omega)) z
        · exact q
      refine ⟨rfl, f3.tr (by rw [e4]; exact avO_wr (by omega)), ?_, ?_, ?_⟩
      · rw [e4, wr_same]; unfold srt; rw [if_pos hsn]; rfl
      · rw [e4, wr_ne (by omega)]; exact h36
      · rw [e4, wr_ne (by omega)]; unfold nxt; rw [if_pos hsn]; exact h37
  have lp : ∀ q, q ≤ n → ∀ M2, avO M M2 → M2.1 81 7 = nI q → Ev LX (d + 1) mX4_advance 0 [some (.ref 81)] [] M2 (fun r M2 => r = none ∧ avO M M2 ∧ tkS M2 (byM M) n (skp (byM M) n q)) := by
    refine dn ?_ (fun q hq ih => ?_)
    · intro M2 h1 h7
      have ht2 := avO_tp h1 ht
      refine gX4_advance_0 ⟨fun _ => ?_, fun z => absurd ?_ z⟩
      · rw [show skp (byM M) n n = n from rn_e (by omega)]
        exact at61 n (Nat.le_refl _) M2 h1 h7
      · rw [h7, ht2.2.1]; exact nI_le (Nat.le_refl _) (by omega)
    · intro M2 h1 h7
      have ht2 := avO_tp h1 ht
      obtain ⟨b1, b2⟩ := tp_b ht2 hq
      refine gX4_advance_0 ⟨fun z => ?_, fun _ => ?_⟩
      · rw [h7, ht2.2.1] at z; exact absurd z (nI_ge hq (by omega))
      · rw [h7, nI_clamp (by omega), b1, avO_by h1]
        rw [avO_by h1] at b2
        have nx : (byM M q == 32 || byM M q == 10) = true → ∀ M3, M3 = ev_wr M2 81 7 (nI q + 1) → Ev LX (d + 1) mX4_advance 0 [some (.ref 81)] [] M3 (fun r M2 => r = none ∧ avO M M2 ∧ tkS M2 (byM M) n (skp (byM M) n q)) := fun hb M3 e3 => by
          rw [nI_1] at e3
          rw [show skp (byM M) n q = skp (byM M) n (q + 1) from rn_s hq hb]
          exact ih M3 (h1.tr (by rw [e3]; exact avO_wr (by omega))) (by rw [e3, wr_same])
        refine ⟨vp_in_nI (by omega) (by omega), fun z M3 e3 => nx ?_ M3 e3, fun z => ⟨vp_in_nI (by omega) (by omega), fun y => ?_, fun y M3 e3 => nx ?_ M3 e3⟩⟩
        · rw [(nI_eq (b := 32) (by omega) (by omega)).mp z]; rfl
        · have n32 : byM M q ≠ 32 := fun w => z (by rw [w]; rfl)
          have n10 : byM M q ≠ 10 := fun w => y (by rw [w]; rfl)
          rw [show skp (byM M) n q = q from rn_e (fun w => by have := w.2; simp [n32, n10] at this)]
          exact at61 q (by omega) M2 h1 h7
        · rw [(nI_eq (b := 10) (by omega) (by omega)).mp y]; rfl
  exact lp p hpn M avO.rf hp
end
