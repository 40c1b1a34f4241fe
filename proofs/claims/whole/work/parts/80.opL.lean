/-! CALLS: spare, notices, lines -/
section
variable {d B : Nat} {M N : ev_Mem} {W T S s f : Nat} {lo : Int32}
def spf (u : Nat → Int32) (lo : Int32) : Nat → Int32 × Int32
  | 0 => (-1, 0)
  | n + 1 => if hs lo (nI n) = true then spf u lo n else if (spf u lo n).2 < u n then (nI n, u n) else spf u lo n
theorem spf_cg {u v : Nat → Int32} (h : eqR u v) : ∀ n, n ≤ 26 → spf u lo n = spf v lo n
  | 0, _ => rfl
  | n + 1, hn => by rw [spf, spf, spf_cg h n (by omega), h n (by omega)]
theorem spf_inv {u : Nat → Int32} : ∀ n, ((spf u lo n).1 = -1 ∧ (spf u lo n).2 = 0 ∧ ∀ k, k < n → hs lo (nI k) = false → ¬ 0 < u k) ∨ ∃ l, l < n ∧ (spf u lo n).1 = nI l ∧ (spf u lo n).2 = u l ∧ hs lo (nI l) = false ∧ 0 < u l ∧ (∀ k, k < n → hs lo (nI k) = false → ¬ u l < u k) ∧ ∀ k, k < l → hs lo (nI k) = false → u k < u l
  | 0 => Or.inl ⟨rfl, rfl, fun k hk => absurd hk (by omega)⟩
  | n + 1 => by
    have ih := spf_inv (u := u) n
    rw [spf]
    by_cases h1 : hs lo (nI n) = true
    · rw [if_pos h1]
      rcases ih with ⟨a, b, c⟩ | ⟨l, hl, a, b, c, e, g, k⟩
      · refine Or.inl ⟨a, b, fun k hk hz => ?_⟩
        by_cases e : k = n
        · rw [e] at hz; rw [h1] at hz; cases hz
        · exact c k (by omega) hz
      · refine Or.inr ⟨l, by omega, a, b, c, e, fun k hk hz => ?_, k⟩
        by_cases e : k = n
        · rw [e] at hz; rw [h1] at hz; cases hz
        · exact g k (by omega) hz
    · rw [if_neg h1]
      have h1 : hs lo (nI n) = false := by rwa [Bool.not_eq_true] at h1
      by_cases h2 : (spf u lo n).2 < u n
      · rw [if_pos h2]
        refine Or.inr ⟨n, by omega, rfl, rfl, h1, ?_, fun k hk hz => ?_, fun k hk hz => ?_⟩
        · rcases ih with ⟨a, b, c⟩ | ⟨l, hl, a, b, c, e, g, k⟩
          · rw [b] at h2; exact h2
          · rw [b] at h2; rw [I_lt] at e h2 ⊢; omega
        · rcases ih with ⟨a, b, c⟩ | ⟨l, hl, a, b, c, e, g, k'⟩
          · by_cases e : k = n
            · rw [e, I_lt]; omega
            · have := c k (by omega) hz
              rw [b] at h2; rw [I_lt] at this h2 ⊢; omega
          · by_cases e : k = n
            · rw [e, I_lt]; omega
            · have := g k (by omega) hz
              rw [b] at h2; rw [I_lt] at this h2 ⊢; omega
        · rcases ih with ⟨a, b, c⟩ | ⟨l, hl, a, b, c, e, g, k'⟩
          · have := c k (by omega) hz
            rw [b] at h2; rw [I_lt] at this h2 ⊢; omega
          · have := g k (by omega) hz
            rw [b] at h2; rw [I_lt] at this h2 ⊢; omega
      · rw [if_neg h2]
        rcases ih with ⟨a, b, c⟩ | ⟨l, hl, a, b, c, e, g, k'⟩
        · refine Or.inl ⟨a, b, fun k hk hz => ?_⟩
          by_cases e : k = n
          · rw [e, ← b]; exact h2
          · exact c k (by omega) hz
        · refine Or.inr ⟨l, by omega, a, b, c, e, fun k hk hz => ?_, k'⟩
          by_cases e : k = n
          · rw [e, ← b]; exact h2
          · exact g k (by omega) hz
theorem kor_inv {u : Nat → Int32} {r : Int32} : ∀ k i, i + k = 26 → (kor u lo r i k = -1 ∧ ∀ j, i ≤ j → j < 26 → ¬ (hs lo (nI j) = false ∧ nI (ahd u lo j 26) = r)) ∨ ∃ l, i ≤ l ∧ l < 26 ∧ kor u lo r i k = nI l ∧ (hs lo (nI l) = false ∧ nI (ahd u lo l 26) = r) ∧ ∀ j, i ≤ j → j < l → ¬ (hs lo (nI j) = false ∧ nI (ahd u lo j 26) = r)
  | 0, i, e => Or.inl ⟨rfl, fun j h1 h2 => absurd h2 (by omega)⟩
  | k + 1, i, e => by
    rw [kor]
    by_cases h : hs lo (nI i) = false ∧ nI (ahd u lo i 26) = r
    · rw [if_pos h]
      exact Or.inr ⟨i, by omega, by omega, rfl, h, fun j h1 h2 => absurd h2 (by omega)⟩
    · rw [if_neg h]
      rcases kor_inv (u := u) (r := r) k (i + 1) (by omega) with ⟨a, b⟩ | ⟨l, h1, h2, h3, h4, h5⟩
      · refine Or.inl ⟨a, fun j h1 h2 => ?_⟩
        by_cases q : j = i
        · rw [q]; exact h
        · exact b j (by omega) h2
      · refine Or.inr ⟨l, by omega, h2, h3, h4, fun j g1 g2 => ?_⟩
        by_cases q : j = i
        · rw [q]; exact h
        · exact h5 j (by omega) g2
theorem cnt_0 {p : Nat → Bool} : ∀ {n : Nat}, fa_cnt p n = 0 ↔ ∀ k, k < n → p k = false
  | 0 => ⟨fun _ k hk => absurd hk (by omega), fun _ => rfl⟩
  | n + 1 => by
    cases e : p n with
    | true =>
      rw [fa_cnt_yes e]
      exact ⟨fun h => absurd h (by omega), fun h => by rw [h n (by omega)] at e; cases e⟩
    | false =>
      rw [fa_cnt_no e, cnt_0]
      refine ⟨fun h k hk => ?_, fun h k hk => h k (by omega)⟩
      by_cases q : k = n
      · rw [q]; exact e
      · exact h k (by omega)
theorem ahd_26 {u : Nat → Int32} {l : Nat} : nI (ahd u lo l 26) = 0 ↔ ∀ k, k < 26 → ahp u lo l k = false := by
  have := fa_cnt_le (ahp u lo l) 26
  rw [← cnt_0]
  unfold ahd
  exact nI_eq (b := 0) (by omega) (by omega)
/-- the two ways to find what to spare -/
theorem spare_eq {u : Nat → Int32} {b : Nat} (hu : upR u b) (hb : b < 2 ^ 30) : (kor u lo 0 0 26 = -1 → (spf u lo 26).1 = -1) ∧ ∀ l, l < 26 → kor u lo 0 0 26 = nI l → (u l = 0 → (spf u lo 26).1 = -1) ∧ (¬ u l = 0 → (spf u lo 26).1 = nI l) := by
  rcases spf_inv (u := u) (lo := lo) 26 with ⟨a, b2, c⟩ | ⟨l, hl, a, b2, c, e, g, k'⟩
  · refine ⟨fun _ => a, fun l hl hk => ⟨fun _ => a, fun hz => ?_⟩⟩
    rcases kor_inv (u := u) (lo := lo) (r := 0) 26 0 (by omega) with ⟨q1, q2⟩ | ⟨m, q1, q2, q3, q4, q5⟩
    · rw [hk] at q1; exact absurd q1 (nI_nm1 (by omega))
    · have : m = l := (nI_eq (by omega) (by omega)).mp (q3.symm.trans hk)
      subst this
      have h1 := c m hl q4.1
      obtain ⟨n, hn, en⟩ := hu m hl
      rw [en] at h1 hz
      have : n = 0 := by
        rcases Nat.eq_zero_or_pos n with q | q
        · exact q
        · exact absurd (nI_lt (a := 0) q (by omega)) h1
      exact absurd (by rw [this]; rfl) hz
  · have cond : hs lo (nI l) = false ∧ nI (ahd u lo l 26) = 0 := by
      refine ⟨c, ahd_26.mpr (fun k hk => ?_)⟩
      unfold ahp
      cases q : hs lo (nI k) with
      | true => rw [Bool.not_true, Bool.and_false]
      | false =>
        have h1 := g k hk q
        rw [decide_eq_false h1, Bool.not_false, Bool.and_true, Bool.false_or]
        by_cases q2 : k < l
        · have h2 := k' k q2 q
          rw [decide_eq_false (p := u k = u l) (fun z => by rw [z, I_lt] at h2; omega)]; rfl
        · rw [decide_eq_false q2, Bool.and_false]
    rcases kor_inv (u := u) (lo := lo) (r := 0) 26 0 (by omega) with ⟨q1, q2⟩ | ⟨m, q1, q2, q3, q4, q5⟩
    · exact absurd cond (q2 l (by omega) hl)
    · have hm : m = l := by
        rcases Nat.lt_or_ge l m with q | q
        · exact absurd cond (q5 l (by omega) q)
        · rcases Nat.lt_or_ge m l with q' | q'
          · have h1 := ahd_26.mp q4.2 l hl
            unfold ahp at h1
            rw [decide_eq_true (k' m q' q4.1), c] at h1
            cases h1
          · omega
      subst hm
      refine ⟨fun z => absurd (q3.symm.trans z) (nI_nm1 (by omega)), fun j hj hk => ?_⟩
      have : m = j := (nI_eq (by omega) (by omega)).mp (q3.symm.trans hk)
      subst this
      exact ⟨fun z => by rw [z] at e; exact absurd e (by decide), fun _ => a⟩
theorem op_spare (h : RX B M N) : OP 200 mX10_spare mX11_spare [] B M N := by
  obtain ⟨W, S, T, Wk, Sk, Tk, h1, h2, h3, h4, h5, h6⟩ := id h
  obtain ⟨hsd, hS⟩ := RX_sd h1 h4
  have h8 := hS.1
  have el : N.1 1 9 = M.1 43 0 := hsd.lo
  refine op_ro (v := some (.int (spf (nwN N S) (M.1 43 0) 26).1)) h ?_ ?_
  · refine Cl_of rfl (Nat.le_of_ble_eq_true rfl) rfl (gX10_spare_0 (d := 199) ⟨_, kX10_countPresses (d := 193) hsd hS, fun zr M2 q => ?_⟩)
    rw [q.1]
    refine gX10_spare_4 (d := 199) ⟨_, kX10_keyOfRank (d := 197), fun zr M3 q3 => ?_⟩
    rw [q3.1, q3.2, q.2.1.1 43 (by omega), kor_cg q.2.2 26 0 (by omega)]
    obtain ⟨s1, s2⟩ := spare_eq (lo := M.1 43 0) (nwN_up hsd hS S (Nat.le_refl _)) (by omega)
    refine gX10_spare_9 ⟨fun z => ⟨by rw [s1 z], xq_z q.2.1⟩, fun z => ?_⟩
    rcases kor_inv (u := nwN N S) (lo := M.1 43 0) (r := 0) 26 0 (by omega) with ⟨q1, -⟩ | ⟨m, -, q2, q3, -⟩
    · exact absurd q1 z
    · rw [q3, nI_clamp (by omega), q.2.2 m q2]
      obtain ⟨t1, t2⟩ := s2 m q2 q3
      exact ⟨vp_in_nI q2 (by omega), fun y => ⟨by rw [t2 y], xq_z q.2.1⟩, fun y => ⟨by rw [t1 y], xq_z q.2.1⟩⟩
  · refine Cl_of rfl (Nat.le_of_ble_eq_true rfl) rfl (gX11_spare_0 (d := 199) ⟨_, kX11_layNows (d := 193) hsd hS, fun zr N1 q => ?_⟩)
    rw [q.1]
    refine gX11_spare_4 ?_
    have e9 : N1.1 1 9 = M.1 43 0 := by rw [q.2.1 1 (by omega)]; exact el
    rw [← spf_cg q.2.2 26 (by omega)]
    have lp : ∀ i, i ≤ 26 → Ev LM 200 mX11_spare 10 [some (.ref 0), some (.int (spf (N1.1 16) (M.1 43 0) i).1), some (.int (spf (N1.1 16) (M.1 43 0) i).2), some (.int (nI i))] [] N1 (fun r N2 => r = some (.int (spf (N1.1 16) (M.1 43 0) 26).1) ∧ pe N N2) := by
      refine dn ?_ (fun i hi ih => ?_)
      · exact gX11_spare_10 (d := 198) ⟨fun _ => ⟨rfl, me_pe q.2.1⟩, fun z => absurd (nI_le (a := 26) (b := 26) (Nat.le_refl _) (by omega)) z⟩
      · rw [spf] at ih
        refine gX11_spare_10 (d := 198) ⟨fun z => absurd z (nI_ge (b := 26) hi (by omega)), fun _ => ?_⟩
        rw [e9, nI_clamp (by omega)]
        refine ⟨fun z => ?_, fun z => ⟨vp_in_nI hi (by omega), fun y => ⟨vp_in_nI hi (by omega), ?_⟩, fun y => ?_⟩⟩
        · rw [if_pos z] at ih; rw [nI_1]; exact ih
        · rw [if_neg (by rw [z]; decide), if_pos y] at ih; rw [nI_1]; exact ih
        · rw [if_neg (by rw [z]; decide), if_neg y] at ih; rw [nI_1]; exact ih
    exact lp 0 (by omega)
end
