section
variable {d : Nat} {M : ev_Mem}
theorem pOK.up {n kt k s u s2 e e2 : Nat} {v : List Int32} {M2 : ev_Mem} (h : pOK M n kt k s u e v s2 M2) (he : e ≤ e2) : pOK M n kt k s u e2 v s2 M2 := ⟨h.1, h.2.1, by have := h.2.2.1; omega, h.2.2.2⟩
theorem xt_c {n kt k s u i : Nat} (h : rdS M n kt k s u) (hi : i < 15) : Cl LX (d + 5) mX4_expectToken [.ref 81, .ref (1010 + i)] M (pR M n kt k s u 0 (List.map nI) (wdR (byM M) n i s)) := by
  refine (kX4_expectToken h hi).mono (fun r M2 hh => ?_)
  rcases hh with ⟨w, rfl, a1, a2, a3⟩ | ⟨w, rfl, rfl⟩
  · refine Or.inl ⟨[], nxs (byM M) n s, by unfold wdR; rw [if_pos w], rfl, a1, a2, ?_, fun i hi => absurd hi (Nat.not_lt_zero i)⟩
    show 0 + s ≤ _; omega
  · exact Or.inr ⟨1, s, by unfold wdR; rw [w]; rfl, rfl, pfl_c (f := 1) h (by omega)⟩
def deed (b : Nat → Nat) (n q s : Nat) : DR :=
  if q = 3 then thn (ltR b n 9 s) fun s => thn (wdR b n 10 s) fun s => thn (nuR b n 0 6 s) fun s => thn (wdR b n 11 s) fun s => thn (nuR b n 0 11 s) fun s => thn (wdR b n 12 s) fun s => nuR b n 0 9 s
  else if q = 4 then ssR b n 5 s
  else if q = 5 then thn (ltR b n 1 s) fun s => thn (wdR b n 13 s) fun s => thn (ltR b n 1 s) fun s => thn (wdR b n 14 s) fun s => nuR b n 0 9 s
  else if q = 6 then ltR b n 1 s
  else if q = 7 then nuR b n 0 23 s
  else if q = 8 then nuR b n 0 7 s
  else nuR b n 1 40 s
/-- a deed's values as the class keeps them -/
def ddC (q : Nat) (vs : List Nat) : List Int32 := if q = 3 then ltC (vs.take (vs.length - 3)) ++ (vs.drop (vs.length - 3)).map nI else if q = 4 then ssC vs else vs.map nI
theorem wdR_n {b : Nat → Nat} {n i s : Nat} {v : List Nat} {s2 : Nat} (h : wdR b n i s = Sum.inr (v, s2)) : v = [] := by
  unfold wdR at h
  split at h
  · cases h; rfl
  · cases h
theorem pR_v {n kt k s u e : Nat} {C : List Nat → List Int32} {O : DR} {r : Option Value} {M2 : ev_Mem} (h : pR M n kt k s u e C O r M2) : ∃ v : Int32, (v = 0 ∨ v = 1) ∧ r = some (.int v) := by
  rcases h with ⟨_, _, _, q, _⟩ | ⟨_, _, _, q, _⟩
  · exact ⟨1, Or.inr rfl, q⟩
  · exact ⟨0, Or.inl rfl, q⟩
theorem pR.up {n kt k s u e e2 : Nat} {C C2 : List Nat → List Int32} {O O2 : DR} {r : Option Value} {M2 : ev_Mem} (h : pR M n kt k s u e C O r M2) (he : e ≤ e2) (hO : O2 = O) (hC : C2 = C) : pR M n kt k s u e2 C2 O2 r M2 := by
  subst hO hC
  rcases h with ⟨vs, s2, h1, h2, h3⟩ | h
  · exact Or.inl ⟨vs, s2, h1, h2, h3.up he⟩
  · exact Or.inr h
theorem deed_3 {n kt k s u : Nat} (h : rdS M n kt k s u) (hus : u + 3 ≤ s) : ∃ Q2 : Option Value → ev_Mem → Prop, Cl LX (d + 8) mX4_readLetters [.ref 81] M Q2 ∧ ∀ (zr : Option Value) (zM : ev_Mem), Q2 zr zM → Ev LX (d + 9) mX4_readDeed 44 [some (.ref 81), none] (zr.toList ++ []) zM (pR M n kt k s u 1 (ddC 3) (deed (byM M) n 3 s)) := by
  have ik := h.2.2.2.2.1
  have t := rd_tk h
  refine ⟨_, kX4_readLetters h (by omega), fun zr M1 hz => ?_⟩
  rcases hz with ⟨v1, s1, e1, rfl, o1⟩ | ⟨f, sf, e1, rfl, hf⟩
  · have x1 := o1.2.2.1
    have b1 := pfz_by ik o1.2.1
    have l1 := o1.1
    refine gX4_readDeed_44 ⟨fun z => absurd z (by decide), fun _ => ⟨_, xt_c (i := 10) l1 (by omega), fun zr M2 hz => ?_⟩⟩
    rw [b1] at hz
    rcases hz with ⟨v2, s2, e2, rfl, p2⟩ | ⟨f, sf, e2, rfl, hf⟩
    rotate_left
    · exact gX4_readDeed_53 ⟨fun _ => Or.inr ⟨f, sf, by simp only [deed, thn, e1, e2]; rfl, rfl, hf.up o1.2.1 (by omega)⟩, fun z => absurd rfl z⟩
    have o2 := o1.tr p2
    have x2 := o2.2.2.1
    have b2 := pfz_by ik o2.2.1
    have l2 := o2.1
    refine gX4_readDeed_53 ⟨fun z => absurd z (by decide), fun _ => ⟨_, kX4_readNumber (lo := 0) (hi := 6) l2 (by omega) (by omega) (by omega), fun zr M3 hz => ?_⟩⟩
    rw [b2] at hz
    rcases hz with ⟨v3, s3, e3, rfl, p3⟩ | ⟨f, sf, e3, rfl, hf⟩
    rotate_left
    · exact gX4_readDeed_63 ⟨fun _ => Or.inr ⟨f, sf, by simp only [deed, thn, e1, e2, e3]; rfl, rfl, hf.up o2.2.1 (by omega)⟩, fun z => absurd rfl z⟩
    have o3 := o2.tr p3
    have x3 := o3.2.2.1
    have b3 := pfz_by ik o3.2.1
    have l3 := o3.1
    refine gX4_readDeed_63 ⟨fun z => absurd z (by decide), fun _ => ⟨_, xt_c (i := 11) l3 (by omega), fun zr M4 hz => ?_⟩⟩
    rw [b3] at hz
    rcases hz with ⟨v4, s4, e4, rfl, p4⟩ | ⟨f, sf, e4, rfl, hf⟩
    rotate_left
    · exact gX4_readDeed_72 ⟨fun _ => Or.inr ⟨f, sf, by simp only [deed, thn, e1, e2, e3, e4]; rfl, rfl, hf.up o3.2.1 (by omega)⟩, fun z => absurd rfl z⟩
    have o4 := o3.tr p4
    have x4 := o4.2.2.1
    have b4 := pfz_by ik o4.2.1
    have l4 := o4.1
    refine gX4_readDeed_72 ⟨fun z => absurd z (by decide), fun _ => ⟨_, kX4_readNumber (lo := 0) (hi := 11) l4 (by omega) (by omega) (by omega), fun zr M5 hz => ?_⟩⟩
    rw [b4] at hz
    rcases hz with ⟨v5, s5, e5, rfl, p5⟩ | ⟨f, sf, e5, rfl, hf⟩
    rotate_left
    · exact gX4_readDeed_82 ⟨fun _ => Or.inr ⟨f, sf, by simp only [deed, thn, e1, e2, e3, e4, e5]; rfl, rfl, hf.up o4.2.1 (by omega)⟩, fun z => absurd rfl z⟩
    have o5 := o4.tr p5
    have x5 := o5.2.2.1
    have b5 := pfz_by ik o5.2.1
    have l5 := o5.1
    refine gX4_readDeed_82 ⟨fun z => absurd z (by decide), fun _ => ⟨_, xt_c (i := 12) l5 (by omega), fun zr M6 hz => ?_⟩⟩
    rw [b5] at hz
    rcases hz with ⟨v6, s6, e6, rfl, p6⟩ | ⟨f, sf, e6, rfl, hf⟩
    rotate_left
    · exact gX4_readDeed_91 ⟨fun _ => Or.inr ⟨f, sf, by simp only [deed, thn, e1, e2, e3, e4, e5, e6]; rfl, rfl, hf.up o5.2.1 (by omega)⟩, fun z => absurd rfl z⟩
    have o6 := o5.tr p6
    have x6 := o6.2.2.1
    have b6 := pfz_by ik o6.2.1
    have l6 := o6.1
    refine gX4_readDeed_91 ⟨fun z => absurd z (by decide), fun _ => ⟨_, kX4_readNumber (lo := 0) (hi := 9) l6 (by omega) (by omega) (by omega), fun zr M7 hz => ?_⟩⟩
    rw [b6] at hz
    rcases hz with ⟨v7, s7, e7, rfl, p7⟩ | ⟨f, sf, e7, rfl, hf⟩
    rotate_left
    · exact gX4_readDeed_101 ⟨fun _ => Or.inr ⟨f, sf, by simp only [deed, thn, e1, e2, e3, e4, e5, e6, e7]; rfl, rfl, hf.up o6.2.1 (by omega)⟩, fun z => absurd rfl z⟩
    have o7 := o6.tr p7
    have x7 := o7.2.2.1
    have b7 := pfz_by ik o7.2.1
    have l7 := o7.1
    refine gX4_readDeed_101 ⟨fun z => absurd z (by decide), fun _ => Or.inl ⟨v1 ++ (v2 ++ (v3 ++ (v4 ++ (v5 ++ (v6 ++ (v7)))))), s7, by simp only [deed, thn, e1, e2, e3, e4, e5, e6, e7]; rfl, rfl, ?_⟩⟩
    obtain rfl := wdR_n e2
    obtain ⟨rfl, -⟩ := nuR_1 e3
    obtain rfl := wdR_n e4
    obtain ⟨rfl, -⟩ := nuR_1 e5
    obtain rfl := wdR_n e6
    obtain ⟨rfl, -⟩ := nuR_1 e7
    have fin := o7.up (e2 := 1) (by omega)
    have ec : ddC 3 (v1 ++ ([] ++ ([nuN (byM M) n s2] ++ ([] ++ ([nuN (byM M) n s4] ++ ([] ++ [nuN (byM M) n s6])))))) = ltC v1 ++ List.map nI [] ++ List.map nI [nuN (byM M) n s2] ++ List.map nI [] ++ List.map nI [nuN (byM M) n s4] ++ List.map nI [] ++ List.map nI [nuN (byM M) n s6] := by
      unfold ddC
      rw [if_pos rfl]
      simp
    rw [ec]
    exact fin
  · exact gX4_readDeed_44 ⟨fun _ => Or.inr ⟨f, sf, by simp only [deed, thn, e1]; rfl, rfl, hf⟩, fun z => absurd rfl z⟩
theorem deed_5 {n kt k s u : Nat} (h : rdS M n kt k s u) (hus : u + 3 ≤ s) : ∃ Q2 : Option Value → ev_Mem → Prop, Cl LX (d + 8) mX4_readLetter [.ref 81] M Q2 ∧ ∀ (zr : Option Value) (zM : ev_Mem), Q2 zr zM → Ev LX (d + 9) mX4_readDeed 119 [some (.ref 81), none] (zr.toList ++ []) zM (pR M n kt k s u 1 (ddC 5) (deed (byM M) n 5 s)) := by
  have ik := h.2.2.2.2.1
  have t := rd_tk h
  refine ⟨_, kX4_readLetter h (by omega), fun zr M1 hz => ?_⟩
  rcases hz with ⟨v1, s1, e1, rfl, o1⟩ | ⟨f, sf, e1, rfl, hf⟩
  · have x1 := o1.2.2.1
    have b1 := pfz_by ik o1.2.1
    have l1 := o1.1
    refine gX4_readDeed_119 ⟨fun z => absurd z (by decide), fun _ => ⟨_, xt_c (i := 13) l1 (by omega), fun zr M2 hz => ?_⟩⟩
    rw [b1] at hz
    rcases hz with ⟨v2, s2, e2, rfl, p2⟩ | ⟨f, sf, e2, rfl, hf⟩
    rotate_left
    · exact gX4_readDeed_128 ⟨fun _ => Or.inr ⟨f, sf, by simp only [deed, thn, e1, e2]; rfl, rfl, hf.up o1.2.1 (by omega)⟩, fun z => absurd rfl z⟩
    have o2 := o1.tr p2
    have x2 := o2.2.2.1
    have b2 := pfz_by ik o2.2.1
    have l2 := o2.1
    refine gX4_readDeed_128 ⟨fun z => absurd z (by decide), fun _ => ⟨_, kX4_readLetter l2 (by omega), fun zr M3 hz => ?_⟩⟩
    rw [b2] at hz
    rcases hz with ⟨v3, s3, e3, rfl, p3⟩ | ⟨f, sf, e3, rfl, hf⟩
    rotate_left
    · exact gX4_readDeed_135 ⟨fun _ => Or.inr ⟨f, sf, by simp only [deed, thn, e1, e2, e3]; rfl, rfl, hf.up o2.2.1 (by omega)⟩, fun z => absurd rfl z⟩
    have o3 := o2.tr p3
    have x3 := o3.2.2.1
    have b3 := pfz_by ik o3.2.1
    have l3 := o3.1
    refine gX4_readDeed_135 ⟨fun z => absurd z (by decide), fun _ => ⟨_, xt_c (i := 14) l3 (by omega), fun zr M4 hz => ?_⟩⟩
    rw [b3] at hz
    rcases hz with ⟨v4, s4, e4, rfl, p4⟩ | ⟨f, sf, e4, rfl, hf⟩
    rotate_left
    · exact gX4_readDeed_144 ⟨fun _ => Or.inr ⟨f, sf, by simp only [deed, thn, e1, e2, e3, e4]; rfl, rfl, hf.up o3.2.1 (by omega)⟩, fun z => absurd rfl z⟩
    have o4 := o3.tr p4
    have x4 := o4.2.2.1
    have b4 := pfz_by ik o4.2.1
    have l4 := o4.1
    refine gX4_readDeed_144 ⟨fun z => absurd z (by decide), fun _ => ⟨_, kX4_readNumber (lo := 0) (hi := 9) l4 (by omega) (by omega) (by omega), fun zr M5 hz => ?_⟩⟩
    rw [b4] at hz
    rcases hz with ⟨v5, s5, e5, rfl, p5⟩ | ⟨f, sf, e5, rfl, hf⟩
    rotate_left
    · exact gX4_readDeed_154 ⟨fun _ => Or.inr ⟨f, sf, by simp only [deed, thn, e1, e2, e3, e4, e5]; rfl, rfl, hf.up o4.2.1 (by omega)⟩, fun z => absurd rfl z⟩
    have o5 := o4.tr p5
    have x5 := o5.2.2.1
    have b5 := pfz_by ik o5.2.1
    have l5 := o5.1
    refine gX4_readDeed_154 ⟨fun z => absurd z (by decide), fun _ => Or.inl ⟨v1 ++ (v2 ++ (v3 ++ (v4 ++ (v5)))), s5, by simp only [deed, thn, e1, e2, e3, e4, e5]; rfl, rfl, ?_⟩⟩
    obtain rfl := wdR_n e2
    obtain rfl := wdR_n e4
    obtain ⟨rfl, -⟩ := nuR_1 e5
    have fin := o5.up (e2 := 1) (by omega)
    have ec : ddC 5 (v1 ++ ([] ++ (v3 ++ ([] ++ [nuN (byM M) n s4])))) = List.map nI v1 ++ List.map nI [] ++ List.map nI v3 ++ List.map nI [] ++ List.map nI [nuN (byM M) n s4] := by
      unfold ddC
      simp
    rw [ec]
    exact fin
  · exact gX4_readDeed_119 ⟨fun _ => Or.inr ⟨f, sf, by simp only [deed, thn, e1]; rfl, rfl, hf⟩, fun z => absurd rfl z⟩
theorem kX4_readDeed {n kt k s u q : Nat} (h : rdS M n kt k s u) (hus : u + 3 ≤ s) (hq : 3 ≤ q ∧ q ≤ 9) : Cl LX (d + 9) mX4_readDeed [.ref 81, .int (nI q)] M (pR M n kt k s u 1 (ddC q) (deed (byM M) n q s)) := by
  have t := rd_tk h
  have tb : ∀ c, c < 256 → (nI q = nI c ↔ q = c) := fun c hc => nI_eq (by omega) (by omega)
  refine Cl_of rfl (Nat.le_of_ble_eq_true rfl) rfl (gX4_readDeed_0 ⟨fun e => ?_, fun e => ?_, fun e => ?_, fun e => ?_, fun e => ?_, fun e => ?_, fun e => ?_⟩)
  · obtain rfl := (tb 3 (by omega)).mp e
    exact deed_3 h hus
  · obtain rfl := (tb 4 (by omega)).mp e
    refine ⟨_, kX4_readSenses h (by omega) t.2.2.1, fun zr zM hz => ?_⟩
    obtain ⟨v, hv, rfl⟩ : ∃ v, (v = 0 ∨ v = 1) ∧ zr = some (.int v) := pR_v hz
    exact gX4_readDeed_114 ⟨nrw v hv, hz.up (by omega) rfl rfl⟩
  · obtain rfl := (tb 5 (by omega)).mp e
    exact deed_5 h hus
  · obtain rfl := (tb 6 (by omega)).mp e
    refine ⟨_, kX4_readLetter h (by omega), fun zr zM hz => ?_⟩
    obtain ⟨v, hv, rfl⟩ : ∃ v, (v = 0 ∨ v = 1) ∧ zr = some (.int v) := pR_v hz
    exact gX4_readDeed_167 ⟨nrw v hv, hz.up (by omega) rfl rfl⟩
  · obtain rfl := (tb 7 (by omega)).mp e
    refine ⟨_, kX4_readNumber (lo := 0) (hi := 23) h (by omega) (by omega) (by omega), fun zr zM hz => ?_⟩
    obtain ⟨v, hv, rfl⟩ : ∃ v, (v = 0 ∨ v = 1) ∧ zr = some (.int v) := pR_v hz
    exact gX4_readDeed_175 ⟨nrw v hv, hz.up (by omega) rfl rfl⟩
  · obtain rfl := (tb 8 (by omega)).mp e
    refine ⟨_, kX4_readNumber (lo := 0) (hi := 7) h (by omega) (by omega) (by omega), fun zr zM hz => ?_⟩
    obtain ⟨v, hv, rfl⟩ : ∃ v, (v = 0 ∨ v = 1) ∧ zr = some (.int v) := pR_v hz
    exact gX4_readDeed_183 ⟨nrw v hv, hz.up (by omega) rfl rfl⟩
  · obtain ⟨n3, n4, n5, n6, n7, n8⟩ := e
    obtain rfl : q = 9 := by
      have m3 : q ≠ 3 := fun z => n3 ((tb 3 (by omega)).mpr z)
      have m4 : q ≠ 4 := fun z => n4 ((tb 4 (by omega)).mpr z)
      have m5 : q ≠ 5 := fun z => n5 ((tb 5 (by omega)).mpr z)
      have m6 : q ≠ 6 := fun z => n6 ((tb 6 (by omega)).mpr z)
      have m7 : q ≠ 7 := fun z => n7 ((tb 7 (by omega)).mpr z)
      have m8 : q ≠ 8 := fun z => n8 ((tb 8 (by omega)).mpr z)
      omega
    refine ⟨_, kX4_readNumber (lo := 1) (hi := 40) h (by omega) (by omega) (by omega), fun zr zM hz => ?_⟩
    obtain ⟨v, hv, rfl⟩ : ∃ v, (v = 0 ∨ v = 1) ∧ zr = some (.int v) := pR_v hz
    exact gX4_readDeed_191 ⟨nrw v hv, hz.up (by omega) rfl rfl⟩
end
