/-! DEEDS: numbers, words and letters, as the class reads them -/
section
variable {d : Nat} {M : ev_Mem}
/-- a fault and its place, or what was read and the next token -/
abbrev DR : Type := (Nat × Nat) ⊕ (List Nat × Nat)
def nuR (b : Nat → Nat) (n lo hi s : Nat) : DR := if srt b n s = 2 then (if nuN b n s < lo ∨ hi < nuN b n s then Sum.inl (2, s) else Sum.inr ([nuN b n s], nxs b n s)) else Sum.inl (1, s)
def wdR (b : Nat → Nat) (n i s : Nat) : DR := if tkW b n s (wdI i) = true then Sum.inr ([], nxs b n s) else Sum.inl (1, s)
def sma (b : Nat → Nat) (n s : Nat) : Bool := al (fun i => decide (97 ≤ b (s + i)) && decide (b (s + i) ≤ 122)) (nxt b n s - s)
def lts' (b : Nat → Nat) (s : Nat) : Nat → List Nat
  | 0 => []
  | k + 1 => lts' b s k ++ [b (s + k) - 97]
def ltR (b : Nat → Nat) (n m s : Nat) : DR := if srt b n s = 1 then (if m < nxt b n s - s then Sum.inl (7, s) else if sma b n s = true then Sum.inr (lts' b s (nxt b n s - s), nxs b n s) else Sum.inl (7, s)) else Sum.inl (1, s)
theorem lts_len {b : Nat → Nat} {s : Nat} : ∀ k, (lts' b s k).length = k
  | 0 => rfl
  | k + 1 => by rw [lts', List.length_append, lts_len k]; rfl
/-- the code behind u -/
def pOK (M : ev_Mem) (n kt k s u e : Nat) (vs : List Int32) (s2 : Nat) (M2 : ev_Mem) : Prop := rdS M2 n kt k s2 (u + vs.length) ∧ pfz kt u M M2 ∧ vs.length + s ≤ s2 + e ∧ ∀ i, i < vs.length → M2.1 (kt + 1) (u + i) = vs.getD i 0
def pFL (M : ev_Mem) (kt u f s2 : Nat) (M2 : ev_Mem) : Prop := 1 ≤ f ∧ f ≤ 8 ∧ s2 ≤ 300 ∧ M2.1 81 3 = nI f ∧ M2.1 81 4 = nI s2 ∧ pfw kt u M M2
def pR (M : ev_Mem) (n kt k s u e : Nat) (C : List Nat → List Int32) (O : DR) (r : Option Value) (M2 : ev_Mem) : Prop := (∃ vs s2, O = Sum.inr (vs, s2) ∧ r = some (.int 1) ∧ pOK M n kt k s u e (C vs) s2 M2) ∨ (∃ f s2, O = Sum.inl (f, s2) ∧ r = some (.int 0) ∧ pFL M kt u f s2 M2)
theorem pfl_c {n kt k s u f : Nat} (h : rdS M n kt k s u) (hf : 1 ≤ f ∧ f ≤ 8) : pFL M kt u f s (flM M (nI f)) := by
  obtain ⟨f2, s2, h1, h2, h3, h4, h5, h6, h7⟩ := fl_c (G := fun f' s' => f' = f ∧ s' = s) h hf ⟨rfl, rfl⟩
  obtain ⟨rfl, rfl⟩ := h7
  exact ⟨h1, h2, h3, h4, h5, h6⟩
theorem pFL.up {kt u u0 f s : Nat} {M0 M2 : ev_Mem} (h : pFL M kt u f s M2) (hp : pfz kt u0 M0 M) (hu : u0 ≤ u) : pFL M0 kt u0 f s M2 := ⟨h.1, h.2.1, h.2.2.1, h.2.2.2.1, h.2.2.2.2.1, hp.trw h.2.2.2.2.2 hu⟩
theorem pOK.tr {n kt k s u s1 s2 e1 e2 : Nat} {v1 v2 : List Int32} {M1 M2 : ev_Mem} (h : pOK M n kt k s u e1 v1 s1 M1) (h2 : pOK M1 n kt k s1 (u + v1.length) e2 v2 s2 M2) : pOK M n kt k s u (e1 + e2) (v1 ++ v2) s2 M2 := by
  obtain ⟨a1, a2, a3, a4⟩ := h
  obtain ⟨b1, b2, b3, b4⟩ := h2
  refine ⟨by rw [List.length_append, ← Nat.add_assoc]; exact b1, a2.tr b2 (by omega), by rw [List.length_append]; omega, fun i hi => ?_⟩
  rw [List.length_append] at hi
  rw [List.getD_eq_getElem?_getD]
  rcases Nat.lt_or_ge i v1.length with z | z
  · rw [List.getElem?_append_left z, b2.2.2.2 _ (by omega), a4 i z, List.getD_eq_getElem?_getD]
  · have := b4 (i - v1.length) (by omega)
    rw [show u + v1.length + (i - v1.length) = u + i by omega] at this
    rw [List.getElem?_append_right z, this, List.getD_eq_getElem?_getD]
theorem kX4_readNumber {n kt k s u lo hi : Nat} (h : rdS M n kt k s u) (hus : u ≤ s) (hh : hi ≤ 9999) (hl : lo ≤ hi) : Cl LX (d + 4) mX4_readNumber [.ref 81, .int (nI lo), .int (nI hi)] M (pR M n kt k s u 0 (List.map nI) (nuR (byM M) n lo hi s)) := by
  have t := rd_tk h
  have e5 := h.2.1.1
  have ik := h.2.2.2.2.1
  have kt' := rd_kt h
  have tb : ∀ c, c < 256 → (M.1 81 5 = nI c ↔ srt (byM M) n s = c) := fun c hc => by rw [e5]; exact nI_eq (by omega) (by omega)
  refine Cl_of rfl (Nat.le_of_ble_eq_true rfl) rfl (gX4_readNumber_0 ⟨fun z => ?_, fun z M1 e1 => ?_⟩)
  · have h2 := (tb 2 (by omega)).mp z
    have hsn := srt_end (b := byM M) (n := n) (s := s) (by omega)
    have nr := num_rel (b := byM M) (s := s) (nxt (byM M) n s - s) (dig_all t.1 h2)
    have cl := cnK_le (b := byM M) (s := s) (nxt (byM M) n s - s)
    refine ⟨_, kX4_number h.1 h.2.2.1 h.2.1 h2, fun zr zM hz => ?_⟩
    obtain ⟨rfl, rfl⟩ := hz
    have bad : ∀ M1, M1 = flM zM 2 → (nuN (byM zM) n s < lo ∨ hi < nuN (byM zM) n s) → pR zM n kt k s u 0 (List.map nI) (nuR (byM zM) n lo hi s) (some (.int 0)) M1 := fun M1 e q => by
      refine Or.inr ⟨2, s, ?_, rfl, ?_⟩
      · unfold nuR; rw [if_pos h2, if_pos q]
      · rw [e]; exact pfl_c (f := 2) h (by omega)
    refine gX4_readNumber_18 ?_
    rw [nI_lt_iff (by omega) (by omega)]
    refine ⟨fun z1 M1 e1 => bad M1 e1 ?_, fun z1 => ⟨fun z2 => ⟨kt'.2, ?_, fun M2 e2 => ?_⟩, fun z2 M3 e3 => bad M3 e3 ?_⟩⟩
    · unfold nuN; rcases nr with q | q <;> omega
    · rw [kt'.1]; exact (put_c (x := 0) h (by omega)).1
    · have z3 : cnK (byM zM) s (nxt (byM zM) n s - s) ≤ hi := by
        rcases Nat.lt_or_ge hi (cnK (byM zM) s (nxt (byM zM) n s - s)) with q | q
        · exact absurd z2 (nI_ge q (by omega))
        · exact q
      have e : cnK (byM zM) s (nxt (byM zM) n s - s) = nuN (byM zM) n s := by unfold nuN; rcases nr with q | q <;> omega
      rw [kt'.1, e] at e2
      obtain ⟨p1, p2, p3, p4⟩ := put_c (x := nI (nuN (byM zM) n s)) h (by omega)
      rw [← e2] at p2 p3 p4
      refine ⟨_, adv_c p2 hsn, fun zr zM2 hz => ?_⟩
      obtain ⟨rfl, a1, a2, a3⟩ := hz
      rw [pfz_by ik p3] at a1 a3
      refine gX4_readNumber_47 (Or.inl ⟨[nuN (byM zM) n s], nxs (byM zM) n s, ?_, rfl, a1, p3.tr a2 (by omega), ?_, fun i hi => ?_⟩)
      · unfold nuR; rw [if_pos h2, if_neg (by omega)]
      · show 1 + s ≤ _; omega
      · obtain rfl : i = 0 := by
          have : i < 1 := hi
          omega
        show zM2.1 (kt + 1) u = nI (nuN (byM zM) n s)
        rw [a2.2.2.2 u (by omega), p4]
    · have : hi < cnK (byM zM) s (nxt (byM zM) n s - s) := by
        rcases Nat.lt_or_ge hi (cnK (byM zM) s (nxt (byM zM) n s - s)) with q | q
        · exact q
        · exact absurd (nI_le q (by omega)) z2
      unfold nuN; rcases nr with q | q <;> omega
  · have h2 : srt (byM M) n s ≠ 2 := fun q => z ((tb 2 (by omega)).mpr q)
    refine Or.inr ⟨1, s, ?_, rfl, ?_⟩
    · unfold nuR; rw [if_neg h2]
    · rw [e1]; exact pfl_c (f := 1) h (by omega)
theorem smi : ∀ x, x < 256 → iin (nI x) 97 122 = (decide (97 ≤ x) && decide (x ≤ 122)) := by decide +kernel
/-- letters: how many, and small -/
theorem kX4_checkLetters {n kt k s u m : Nat} (h : rdS M n kt k s u) (hm : m ≤ 300) : Cl LX (d + 1) mX4_checkLetters [.ref 81, .int (nI m)] M (fun r M2 => (∃ vs s2, ltR (byM M) n m s = Sum.inr (vs, s2) ∧ r = some (.int 1) ∧ M2 = M) ∨ (∃ f s2, ltR (byM M) n m s = Sum.inl (f, s2) ∧ r = some (.int 0) ∧ pFL M kt u f s2 M2)) := by
  have t := rd_tk h
  have e5 := h.2.1.1
  have e6 := h.2.1.2.1
  have e7 := h.2.1.2.2
  have el := nxt_le (b := byM M) (n := n) (s := s) t.2.2.1
  have tb : ∀ c, c < 256 → (M.1 81 5 = nI c ↔ srt (byM M) n s = c) := fun c hc => by rw [e5]; exact nI_eq (by omega) (by omega)
  refine Cl_of rfl (Nat.le_of_ble_eq_true rfl) rfl (gX4_checkLetters_0 ⟨fun z => ?_, fun z M1 e1 => ?_⟩)
  · have h1 := (tb 1 (by omega)).mp z
    rw [e6, e7, pk_sub el.1]
    refine ⟨fun z1 => ?_, fun z1 M1 e1 => ?_⟩
    · have z2 : ¬ m < nxt (byM M) n s - s := fun q => absurd z1 (nI_ge q (by omega))
      have lp : ∀ j, j ≤ nxt (byM M) n s - s → (∀ i, i < j → (decide (97 ≤ byM M (s + i)) && decide (byM M (s + i) ≤ 122)) = true) → Ev LX (d + 1) mX4_checkLetters 39 [some (.ref 81), none, some (.int (nI (s + j)))] [] M (fun r M2 => (∃ vs s2, ltR (byM M) n m s = Sum.inr (vs, s2) ∧ r = some (.int 1) ∧ M2 = M) ∨ (∃ f s2, ltR (byM M) n m s = Sum.inl (f, s2) ∧ r = some (.int 0) ∧ pFL M kt u f s2 M2)) := by
        refine dn ?_ (fun j hj ih => ?_)
        · intro ha
          refine gX4_checkLetters_39 ⟨fun _ => Or.inl ⟨lts' (byM M) s (nxt (byM M) n s - s), nxs (byM M) n s, ?_, rfl, rfl⟩, fun q => ?_⟩
          · unfold ltR
            rw [if_pos h1, if_neg z2, if_pos (show sma (byM M) n s = true from al_t.mpr ha)]
          · rw [e7] at q
            exact absurd (nI_le (show nxt (byM M) n s ≤ s + (nxt (byM M) n s - s) by omega) (by omega)) q
        · intro ha
          obtain ⟨b1, b2⟩ := tp_b h.1 (i := s + j) (by omega)
          refine gX4_checkLetters_39 ⟨fun q => ?_, fun _ => ⟨vp_in_nI (by omega) (by omega), ?_⟩⟩
          · rw [e7] at q
            exact absurd q (nI_ge (by omega) (by omega))
          · rw [nI_clamp (by omega), b1, smi _ b2]
            refine ⟨fun q => ?_, fun q M1 e1 => Or.inr ⟨7, s, ?_, rfl, ?_⟩⟩
            · rw [nI_1, Nat.add_assoc]
              refine ih (fun i hi => ?_)
              rcases Nat.lt_or_ge i j with w | w
              · exact ha i w
              · obtain rfl : i = j := by omega
                exact q
            · unfold ltR sma
              rw [if_pos h1, if_neg z2, al_f hj q, if_neg (by decide)]
            · rw [e1]; exact pfl_c (f := 7) h (by omega)
      have := lp 0 (by omega) (fun i hi => by omega)
      rw [Nat.add_zero] at this
      exact this
    · have z2 : m < nxt (byM M) n s - s := by
        rcases Nat.lt_or_ge m (nxt (byM M) n s - s) with q | q
        · exact q
        · exact absurd (nI_le q (by omega)) z1
      refine Or.inr ⟨7, s, ?_, rfl, ?_⟩
      · unfold ltR; rw [if_pos h1, if_pos z2]
      · rw [e1]; exact pfl_c (f := 7) h (by omega)
  · have h1 : srt (byM M) n s ≠ 1 := fun q => z ((tb 1 (by omega)).mpr q)
    refine Or.inr ⟨1, s, ?_, rfl, ?_⟩
    · unfold ltR; rw [if_neg h1]
    · rw [e1]; exact pfl_c (f := 1) h (by omega)
end
