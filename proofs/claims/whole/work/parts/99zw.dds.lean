section
variable {d : Nat} {M : ev_Mem}
/-- one behind the other -/
def thn (O : DR) (F : Nat → DR) : DR := match O with
  | Sum.inl e => Sum.inl e
  | Sum.inr (v, s) => match F s with
    | Sum.inl e => Sum.inl e
    | Sum.inr (w, s2) => Sum.inr (v ++ w, s2)
/-- senses, r of them at most -/
def ssR (b : Nat → Nat) (n : Nat) : Nat → Nat → DR
  | 0, s => Sum.inl (8, s)
  | r + 1, s => match nuR b n 0 11 s with
    | Sum.inl e => Sum.inl e
    | Sum.inr (v, s1) => if srt b n s1 = 44 then (if r = 0 then Sum.inl (8, s1) else (match ssR b n r (nxs b n s1) with
      | Sum.inl e => Sum.inl e
      | Sum.inr (w, s2) => Sum.inr (v ++ w, s2))) else Sum.inr (v, s1)
def ssC (vs : List Nat) : List Int32 := nI vs.length :: vs.map nI
theorem nuR_1 {b : Nat → Nat} {n lo hi s : Nat} {v : List Nat} {s2 : Nat} (h : nuR b n lo hi s = Sum.inr (v, s2)) : v = [nuN b n s] ∧ s2 = nxs b n s ∧ lo ≤ nuN b n s ∧ nuN b n s ≤ hi ∧ srt b n s = 2 := by
  unfold nuR at h
  split at h
  · split at h
    · cases h
    · cases h
      exact ⟨rfl, rfl, by omega, by omega, by assumption⟩
  · cases h
theorem kX4_readSenses {n kt k s u : Nat} (h : rdS M n kt k s u) (hus : u + 2 ≤ s) (hsn : s ≤ n) : Cl LX (d + 5) mX4_readSenses [.ref 81] M (pR M n kt k s u 1 ssC (ssR (byM M) n 5 s)) := by
  have t := rd_tk h
  have ik := h.2.2.2.2.1
  have kt' := rd_kt h
  have eu := h.2.2.2.2.2.1
  have s300 : u < 300 := by omega
  refine Cl_of rfl (Nat.le_of_ble_eq_true rfl) rfl (gX4_readSenses_0 ⟨kt'.2, fun v1 ev => ⟨kt'.2, by rw [kt'.1]; exact (put_c (x := 0) h s300).1, fun M1 e1 => ?_⟩⟩)
  rw [kt'.1] at ev e1
  rw [eu] at ev
  subst ev
  obtain ⟨p1, p2, p3, p4⟩ := put_c (x := 0) h s300
  rw [← e1] at p2 p3 p4
  have lp : ∀ (r j s1 : Nat) (acc : List Nat) (M2 : ev_Mem), j + r = 5 → acc.length = j → rdS M2 n kt k s1 (u + 1 + j) → pfz kt u M M2 → s + 2 * j ≤ s1 → (∀ i, i < j → M2.1 (kt + 1) (u + 1 + i) = nI (acc.getD i 0)) → (∀ O, ssR (byM M) n r s1 = O → ssR (byM M) n 5 s = (match O with | Sum.inl e => Sum.inl e | Sum.inr (w, s2) => Sum.inr (acc ++ w, s2))) → Ev LX (d + 5) mX4_readSenses 18 [some (.ref 81), some (.int (nI u)), some (.int (nI (j + 1)))] [] M2 (pR M n kt k s u 1 ssC (ssR (byM M) n 5 s)) := by
    intro r
    induction r with
    | zero =>
      intro j s1 acc M2 hj ha r2 q2 g1 g2 lk
      obtain rfl : j = 5 := by omega
      refine gX4_readSenses_18 ⟨fun _ M3 e3 => Or.inr ⟨8, s1, lk _ rfl, rfl, ?_⟩, fun z => absurd (by decide) z⟩
      rw [e3]
      exact (pfl_c (f := 8) r2 (by omega)).up q2 (by omega)
    | succ r ih =>
      intro j s1 acc M2 hj ha r2 q2 g1 g2 lk
      have b2 := pfz_by ik q2
      have t2 := rd_tk r2
      refine gX4_readSenses_18 ⟨fun z => absurd z (fun q => ?_), fun _ => ⟨_, kX4_readNumber (lo := 0) (hi := 11) r2 (by omega) (by omega) (by omega), fun zr M3 hz => ?_⟩⟩
      · exact absurd q (fun q => by
          have := (nI_lt_iff (a := 5) (b := j + 1) (by omega) (by omega)).mp q
          omega)
      · rw [b2] at hz
        rcases hz with ⟨vs, s2, e, rfl, o1, o2, o3, o4⟩ | ⟨f, s2, e, rfl, hf⟩
        · obtain ⟨rfl, rfl, n1, n2, n3⟩ := nuR_1 e
          have o1' : rdS M3 n kt k (nxs (byM M) n s1) (u + 1 + j + 1) := o1
          have k3 := rd_kt o1'
          have t3 := rd_tk o1'
          have c4 : M3.1 (kt + 1) (u + 1 + j) = nI (nuN (byM M) n s1) := o4 0 (by simp)
          have o3' : 1 + s1 ≤ nxs (byM M) n s1 + 0 := o3
          refine gX4_readSenses_30 ⟨fun _ => ⟨k3.2, ?_⟩, fun z => absurd z (by decide)⟩
          rw [k3.1]
          refine ⟨_, kX8_set ik o1'.2.2.2.2.2.1 (by omega) (by omega), fun zr M4 hz => ?_⟩
          obtain ⟨rfl, rfl⟩ := hz
          obtain ⟨w1, w2, w3, w4⟩ := set_c (u0 := u) (at' := u) (x := nI (j + 1)) o1' (by omega) (Nat.le_refl _)
          have q4 := (q2.tr o2 (by omega)).tr w2 (Nat.le_refl _)
          have b4 := pfz_by ik q4
          have e5 := w1.2.1.1
          rw [b4] at e5
          have tb : ∀ c, c < 256 → ((ev_wr M3 (kt + 1) u (nI (j + 1))).1 81 5 = nI c ↔ srt (byM M) n (nxs (byM M) n s1) = c) := fun c hc => by rw [e5]; exact nI_eq (by have := (rd_tk w1).2.2.2; rw [b4] at this; omega) (by omega)
          have cs : ∀ i, i < j + 1 → (ev_wr M3 (kt + 1) u (nI (j + 1))).1 (kt + 1) (u + 1 + i) = nI ((acc ++ [nuN (byM M) n s1]).getD i 0) := by
            intro i hi
            rw [w4 _ (by omega)]
            rcases Nat.lt_or_ge i j with z | z
            · rw [o2.2.2.2 _ (by omega), g2 i z, gD_l (by omega)]
            · obtain rfl : i = j := by omega
              rw [c4, ← ha, gD_r]
          have al' : (acc ++ [nuN (byM M) n s1]).length = j + 1 := by rw [List.length_append, ha]; rfl
          refine gX4_readSenses_44 ⟨fun z => ?_, fun z => ?_⟩
          · have z44 := (tb 44 (by omega)).mp z
            have hsn2 := srt_end (b := byM M) (n := n) (s := nxs (byM M) n s1) (by omega)
            refine ⟨fun y => ?_, fun y => ?_⟩
            · have j4 : j = 4 := by
                have : 5 ≤ j + 1 := by
                  rcases Nat.lt_or_ge (j + 1) 5 with x | x
                  · exact absurd y (nI_ge (a := j + 1) (b := 5) x (by omega))
                  · exact x
                omega
              obtain rfl : r = 0 := by omega
              have lk2 := lk (Sum.inl (8, nxs (byM M) n s1)) (by rw [ssR, e]; simp [z44])
              rw [nI_1]
              refine gX4_readSenses_18 ⟨fun _ M5 e5' => Or.inr ⟨8, _, lk2, rfl, ?_⟩, fun z => absurd (by rw [j4]; decide) z⟩
              rw [e5']
              exact (pfl_c (f := 8) w1 (by omega)).up q4 (by omega)
            · have j4 : j + 1 < 5 := by
                rcases Nat.lt_or_ge (j + 1) 5 with x | x
                · exact x
                · exact absurd (nI_le (a := 5) x (by omega)) y
              refine ⟨_, adv_c w1 (by omega), fun zr M5 hz => ?_⟩
              obtain ⟨rfl, a1, a2, a3⟩ := hz
              rw [b4] at a1 a3
              refine gX4_readSenses_64 ?_
              rw [nI_1]
              refine ih (j + 1) (nxs (byM M) n (nxs (byM M) n s1)) (acc ++ [nuN (byM M) n s1]) M5 (by omega) al' (by rw [show u + 1 + (j + 1) = u + 1 + j + 1 by omega]; exact a1) (q4.tr a2 (by omega)) (by omega) (fun i hi => by rw [a2.2.2.2 _ (by omega)]; exact cs i hi) (fun O hO => ?_)
              subst hO
              have es : ssR (byM M) n (r + 1) s1 = (match ssR (byM M) n r (nxs (byM M) n (nxs (byM M) n s1)) with | Sum.inl e => Sum.inl e | Sum.inr (w, s2) => Sum.inr ([nuN (byM M) n s1] ++ w, s2)) := by
                rw [ssR, e]
                simp only
                rw [if_pos z44, if_neg (by omega)]
              rw [lk _ es]
              generalize ssR (byM M) n r (nxs (byM M) n (nxs (byM M) n s1)) = O
              cases O with
              | inl e => rfl
              | inr x => simp only [List.append_assoc]
          · have z44 : srt (byM M) n (nxs (byM M) n s1) ≠ 44 := fun q => z ((tb 44 (by omega)).mpr q)
            have lk2 := lk (Sum.inr ([nuN (byM M) n s1], nxs (byM M) n s1)) (by rw [ssR, e]; simp only; rw [if_neg z44])
            have ll : (ssC (acc ++ [nuN (byM M) n s1])).length = j + 2 := by unfold ssC; rw [List.length_cons, List.length_map, al']
            refine Or.inl ⟨_, _, lk2, rfl, by rw [ll, show u + (j + 2) = u + 1 + j + 1 by omega]; exact w1, q4, by rw [ll]; omega, fun i hi => ?_⟩
            rw [ll] at hi
            cases i with
            | zero =>
              show (ev_wr M3 (kt + 1) u (nI (j + 1))).1 (kt + 1) u = nI (acc ++ [nuN (byM M) n s1]).length
              rw [al']; exact w3
            | succ i =>
              rw [show u + (i + 1) = u + 1 + i by omega, cs i (by omega)]
              show _ = ((acc ++ [nuN (byM M) n s1]).map nI).getD i 0
              rw [List.getD_eq_getElem?_getD, List.getD_eq_getElem?_getD, List.getElem?_map]
              rw [List.getElem?_eq_getElem (by omega)]
              rfl
        · refine gX4_readSenses_30 ⟨fun z => absurd rfl z, fun _ => Or.inr ⟨f, s2, ?_, rfl, hf.up q2 (by omega)⟩⟩
          exact lk (Sum.inl (f, s2)) (by rw [ssR, e])
  refine lp 5 0 s [] M1 (by omega) rfl p2 p3 (by omega) (fun i hi => by omega) (fun O hO => ?_)
  rw [hO]
  cases O with
  | inl e => rfl
  | inr x => rfl
end
