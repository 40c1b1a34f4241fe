/-! hearing, saying, on both sides -/
section
variable {d : Nat} {M N : ev_Mem} {W T : Nat} {lo : Int32}
theorem sd_okT (h : sdR M N W T lo) : okT M := ⟨T, h.t4, h.mt, by rw [h.te]; exact h.ti⟩
/-- heard: how all words sound with the keys lo lost -/
def hrd (N Mi : ev_Mem) (W : Nat) (lo : Int32) : Prop := Mi.1 86 3 = lo ∧ heldI Mi N W ∧ supO Mi N W
theorem hearN (h : sdR M N W T (M.1 43 0)) : Cl LX (d + 5) mX10_hearNow [.ref 0] M (fun r M2 => r = none ∧ ufr M M2 ∧ hrd N M2 W (M.1 43 0)) := by
  refine Cl_of rfl (Nat.le_of_ble_eq_true rfl) rfl (gX10_hearNow_0 (d := d + 3) fun M1 e1 => ?_)
  have f1 : ufr M M1 := by rw [e1]; exact ufr_86 (Or.inr rfl)
  have h1 := sdR_cg (fun k hk => f1.1 k (by omega)) h
  refine ⟨sd_okT h1, ?_⟩
  rw [h1.te, show M1.1 43 = M.1 43 from f1.1 43 (by omega)]
  refine ⟨_, kX6_suppose (d := d) h1 (Or.inl (by rw [e1, wr_same])), fun zr M2 q => ?_⟩
  rw [q.1]
  exact gX10_hearNow_25 ⟨rfl, f1.tr q.2.1, q.2.2.1, q.2.2.2.2.1, q.2.2.2.2.2⟩
theorem okS_of {S : Nat} (h : senR M N S) : okS M := ⟨S, h.1, h.2.1⟩
/-- all that asking how things sound may change of the class -/
def qfr (M M2 : ev_Mem) : Prop := (∀ k, k < 82 ∨ 99 < k → M2.1 k = M.1 k) ∧ M2.2 = M.2
theorem qfr.rf : qfr M M := ⟨fun _ _ => rfl, rfl⟩
theorem qfr.tr {M1 M2 : ev_Mem} (h : qfr M M1) (k : qfr M1 M2) : qfr M M2 := ⟨fun i hi => (k.1 i hi).trans (h.1 i hi), k.2.trans h.2⟩
theorem qfr_u {M2 : ev_Mem} (h : ufr M M2) : qfr M M2 := ⟨fun k hk => h.1 k (by omega), h.2.2⟩
theorem qfr_o {M2 : ev_Mem} (h : ofx M M2) : qfr M M2 := ⟨fun k hk => h.1 k (by omega) (by omega), h.2.2⟩
theorem qfr_p {M2 : ev_Mem} (h : pfr M M2) : qfr M M2 := ⟨fun k hk => h.1 k (by omega), h.2⟩
theorem qfr_l {M2 : ev_Mem} (h : lfr M M2) : qfr M M2 := ⟨fun k hk => h.1 k (by omega), h.2⟩
theorem hrd_o {M2 : ev_Mem} (h : ofx M M2) (k : hrd N M W lo) : hrd N M2 W lo := by
  obtain ⟨k1, k2, k3⟩ := k
  refine ⟨by rw [h.2.1 3 (by omega)]; exact k1, ?_, ?_⟩
  · unfold heldI; rw [h.1 89 (by omega) (by omega), h.1 90 (by omega) (by omega), h.2.1 8 (by omega)]; exact k2
  · unfold supO; rw [h.1 87 (by omega) (by omega), h.1 88 (by omega) (by omega)]; exact k3
theorem hrd_p {M2 : ev_Mem} (h : pfr M M2) (k : hrd N M W lo) : hrd N M2 W lo := hrd_o (ofx_pfr h) k
theorem hrd_l {M2 : ev_Mem} (h : lfr M M2) (k : hrd N M W lo) : hrd N M2 W lo := by
  obtain ⟨k1, k2, k3⟩ := k
  refine ⟨by rw [h.1 86 (by omega)]; exact k1, ?_, ?_⟩
  · unfold heldI; rw [h.1 89 (by omega), h.1 90 (by omega), h.1 86 (by omega)]; exact k2
  · unfold supO; rw [h.1 87 (by omega), h.1 88 (by omega)]; exact k3
/-- what a spoken sentence answers: whether, and then its cells -/
def spoke (N M2 : ev_Mem) (s : Nat) (z : Option Value) : Prop := (bN N s = none ∧ z = some (.int 0)) ∨ ∃ f, bN N s = some f ∧ z = some (.int 1) ∧ spN N M2 s f
theorem speakH {Mi : ev_Mem} {S s : Nat} (h : sdR M N W T lo) (hS : senR M N S) (hs : s < S) (hM : ∀ k, k < 82 → Mi.1 k = M.1 k) (hh : hrd N Mi W lo) : Cl LX (d + 4) mX6_speak [.ref 86, .int (nI s)] Mi (fun z M2 => ofx Mi M2 ∧ hrd N M2 W lo ∧ spoke N M2 s z) :=
  Cl.mono (speakN h hS hs hM hh.1 hh.2.2) (fun z M2 q => ⟨q.1, hrd_o q.1 hh, q.2⟩)
theorem speakNowN {S : Nat} {x : Int32} (h : sdR M N W T (M.1 43 0)) (hS : senR M N S) :
    Cl LX (d + 6) mX10_speakNow [.ref 0, .int x] M (fun z M2 => qfr M M2 ∧ (((¬ ∃ s, s < S ∧ x = nI s) ∧ z = some (.int 0)) ∨ ∃ s, s < S ∧ x = nI s ∧ spoke N M2 s z)) := by
  have h8 := hS.1
  refine Cl_of rfl (Nat.le_of_ble_eq_true rfl) rfl (gX10_speakNow_0 (d := d + 5) ⟨okS_of hS, fun z => ?_, fun z => ?_⟩)
  · rw [hS.2.1] at z
    obtain ⟨s, hs, rfl⟩ := (iin_N (by omega)).mp z
    refine ⟨_, hearN (d := d) h, fun zr M1 q => ?_⟩
    rw [q.1]
    refine gX10_speakNow_17 ⟨_, speakH (d := d + 1) h hS hs (fun k hk => q.2.1.1 k (by omega)) q.2.2, fun zr M2 q2 => ?_⟩
    have fin : qfr M M2 ∧ (((¬ ∃ t, t < S ∧ nI s = nI t) ∧ zr = some (.int 0)) ∨ ∃ t, t < S ∧ nI s = nI t ∧ spoke N M2 t zr) := ⟨(qfr_u q.2.1).tr (qfr_o q2.1), Or.inr ⟨s, hs, rfl, q2.2.2⟩⟩
    rcases q2.2.2 with ⟨-, e⟩ | ⟨f, -, e, -⟩
    · rw [e] at fin ⊢
      exact gX10_speakNow_25 ⟨rfl, fin⟩
    · rw [e] at fin ⊢
      exact gX10_speakNow_25 ⟨rfl, fin⟩
  · rw [hS.2.1] at z
    refine ⟨qfr.rf, Or.inl ⟨fun y => ?_, rfl⟩⟩
    rw [(iin_N (by omega)).mpr y] at z
    cases z
/-- all that asking may change of the model -/
def me (N N2 : ev_Mem) : Prop := ∀ k, k ≤ 5 → N2.1 k = N.1 k
theorem me.rf : me N N := fun _ _ => rfl
theorem me.tr {N2 N3 : ev_Mem} (h : me N N2) (k : me N2 N3) : me N N3 := fun i hi => (k i hi).trans (h i hi)
theorem me_pe {N2 : ev_Mem} (h : me N N2) : pe N N2 := by
  refine ⟨⟨(h 1 (by omega)).symm, (h 2 (by omega)).symm, (h 3 (by omega)).symm, (h 4 (by omega)).symm, (h 5 (by omega)).symm⟩, ?_, ?_, ?_⟩ <;> rw [h 0 (by omega)]
theorem me_o {N2 : ev_Mem} (h : ofr N N2) : me N N2 := fun k hk => h.1 k (by omega) (by omega)
theorem me_s {N2 : ev_Mem} (h : sfr N N2) : me N N2 := fun k hk => h.1 k (by omega) (by omega) (by omega)
theorem me_n {N2 : ev_Mem} (h : nfr N N2) : me N N2 := fun k hk => h.1 k (by omega) (by omega)
theorem bN_1 {N2 : ev_Mem} {s : Nat} (h1 : N2.1 1 = N.1 1) (h4 : N2.1 4 = N.1 4) : bN N2 s = bN N s := by
  unfold bN
  rw [cN_1 h1 h4]
  unfold lnN wN
  rw [h1]
theorem hN_1 {N2 : ev_Mem} {s f : Nat} (h1 : N2.1 1 = N.1 1) (h4 : N2.1 4 = N.1 4) : hN N2 s f = hN N s f := by
  unfold hN
  rw [cN_1 h1 h4, aw_1 h1]
  unfold lnN wN
  rw [h1]
/-- what the model says of a sentence -/
def sayd (N N2 : ev_Mem) (s : Nat) (r : Option Value) : Prop := (bN N s = none ∧ r = some (.int (-1))) ∨ ∃ f, bN N s = some f ∧ r = some (.int (nI (cN N s (lnN N s - 1) f))) ∧ ∀ p, p < lnN N s → N2.1 13 p = nI (hN N s f p)
def laid (N Ni : ev_Mem) (W : Nat) : Prop := ∀ w, w < W → Ni.1 11 w = sfw N w
theorem layN (h : sdR M N W T lo) : Cl LM (d + 5) mX11_layStiffs [.ref 0] N (fun r N2 => r = none ∧ me N N2 ∧ laid N N2 W) :=
  Cl.mono (kX11_layStiffs (d := d) (sd_gN h) h.nw h.w24) (fun r N2 q => ⟨q.1, me_s q.2.1, q.2.2⟩)
theorem leastH {Ni : ev_Mem} {S s : Nat} (h : sdR M N W T lo) (hS : senR M N S) (hs : s < S) (h1 : me N Ni) (h11 : laid N Ni W) :
    Cl LM (d + 4) mX11_leastOf [.ref 0, .int (nI s)] Ni (fun r N2 => me Ni N2 ∧ laid N N2 W ∧ sayd N N2 s r) :=
  Cl.mono (leastN (d := d) h hS hs (h1 1 (by omega)) h11) (fun r N2 q => ⟨me_o q.1, fun w hw => by rw [q.1.1 11 (by omega) (by omega)]; exact h11 w hw, q.2⟩)
theorem saidN {S s : Nat} (h : sdR M N W T lo) (hS : senR M N S) (hs : s < S) : Cl LM (d + 6) mX11_saidOf [.ref 0, .int (nI s)] N (fun r N2 => me N N2 ∧ sayd N N2 s r) := by
  refine Cl_of rfl (Nat.le_of_ble_eq_true rfl) rfl (gX11_saidOf_0 (d := d + 5) ⟨_, layN (d := d) h, fun zr N1 q => ?_⟩)
  rw [q.1]
  refine gX11_saidOf_4 ⟨_, leastH (d := d + 1) h hS hs q.2.1 q.2.2, fun zr N2 q2 => ?_⟩
  have fin : me N N2 ∧ sayd N N2 s zr := ⟨q.2.1.tr q2.1, q2.2.2⟩
  rcases q2.2.2 with ⟨-, e⟩ | ⟨f, -, e, -⟩
  · rw [e] at fin ⊢; exact gX11_saidOf_9 fin
  · rw [e] at fin ⊢; exact gX11_saidOf_9 fin
theorem s351 {s : Nat} (hs : s < 8) : (351 : Int32) + 6 * nI s = nI (351 + 6 * s) := by rw [show (351 : Int32) = nI 351 from rfl, show (6 : Int32) = nI 6 from rfl, pk_mul, nI_add]
theorem i351 {s : Nat} (hs : s < 8) : vp_in ((351 : Int32) + 6 * nI s) 3315 := by rw [s351 hs]; exact vp_in_nI (by omega) (by omega)
theorem c351 {s : Nat} (hs : s < 8) : ((351 : Int32) + 6 * nI s).toNatClampNeg = 351 + 6 * s := by rw [s351 hs, nI_clamp (by omega)]
theorem kX11_secondsIn {s n : Nat} {c : Nat → Nat} (hs : s < 8) (hn5 : n ≤ 5) (hn : N.1 1 (351 + 6 * s) = nI n) (hc : ∀ p, p < n → N.1 13 p = nI (c p) ∧ wm N (nI (c p))) :
    Cl LM (d + 4) mX11_secondsIn [.ref 0, .int (nI s)] N (ev_R (some (.int (smI (fun p => mS N (nI (c p))) n))) N) := by
  refine Cl_of rfl (Nat.le_of_ble_eq_true rfl) rfl (gX11_secondsIn_0 ?_)
  have lp : ∀ p, p ≤ n → Ev LM (d + 4) mX11_secondsIn 4 [some (.ref 0), some (.int (nI s)), some (.int (smI (fun p => mS N (nI (c p))) p)), some (.int (nI p))] [] N (ev_R (some (.int (smI (fun p => mS N (nI (c p))) n))) N) := by
    refine dn ?_ (fun p hp ih => ?_)
    · refine gX11_secondsIn_4 ⟨i351 hs, fun _ => ⟨rfl, rfl⟩, fun h => absurd ?_ h⟩
      rw [c351 hs, hn]; exact nI_le (Nat.le_refl _) (by omega)
    · refine gX11_secondsIn_4 ⟨i351 hs, fun h => ?_, fun _ => ⟨vp_in_nI (by omega) (by omega), ?_⟩⟩
      · rw [c351 hs, hn] at h; exact absurd h (nI_ge (by omega) (by omega))
      · rw [nI_clamp (by omega), (hc p hp).1]
        refine ⟨(hc p hp).2, fun v1 e1 => ?_⟩
        rw [e1, nI_1]
        exact ih
  exact lp 0 (by omega)
theorem kX11_lettersIn {s n : Nat} {c : Nat → Nat} (hs : s < 8) (hn5 : n ≤ 5) (hn : N.1 1 (351 + 6 * s) = nI n) (hc : ∀ p, p < n → N.1 13 p = nI (c p) ∧ c p < 24) :
    Cl LM (d + 1) mX11_lettersIn [.ref 0, .int (nI s)] N (ev_R (some (.int (smI (fun p => aw N (c p) 3) n))) N) := by
  refine Cl_of rfl (Nat.le_of_ble_eq_true rfl) rfl (gX11_lettersIn_0 ?_)
  have lp : ∀ p, p ≤ n → Ev LM (d + 1) mX11_lettersIn 4 [some (.ref 0), some (.int (nI s)), some (.int (smI (fun p => aw N (c p) 3) p)), some (.int (nI p))] [] N (ev_R (some (.int (smI (fun p => aw N (c p) 3) n))) N) := by
    refine dn ?_ (fun p hp ih => ?_)
    · refine gX11_lettersIn_4 ⟨i351 hs, fun _ => ⟨rfl, rfl⟩, fun h => absurd ?_ h⟩
      rw [c351 hs, hn]; exact nI_le (Nat.le_refl _) (by omega)
    · refine gX11_lettersIn_4 ⟨i351 hs, fun h => ?_, fun _ => ⟨vp_in_nI (by omega) (by omega), ?_⟩⟩
      · rw [c351 hs, hn] at h; exact absurd h (nI_ge (by omega) (by omega))
      · rw [nI_clamp (by omega), (hc p hp).1]
        refine ⟨awi3 (hc p hp).2, fun v1 e1 => ?_⟩
        rw [aw3 (hc p hp).2] at e1
        rw [e1, nI_1]
        exact ih
  exact lp 0 (by omega)
theorem kX11_penceOf {s n : Nat} {c : Nat → Nat} (hs : s < 8) (hn5 : n ≤ 5) (hn : N.1 1 (351 + 6 * s) = nI n) (hc : ∀ p, p < n → N.1 13 p = nI (c p) ∧ c p < 24) :
    Cl LM (d + 1) mX11_penceOf [.ref 0, .int (nI s)] N (ev_R (some (.int (smI (fun p => if aw N (c p) 0 = 2 then 3 else 2) n))) N) := by
  refine Cl_of rfl (Nat.le_of_ble_eq_true rfl) rfl (gX11_penceOf_0 ?_)
  have lp : ∀ p, p ≤ n → Ev LM (d + 1) mX11_penceOf 4 [some (.ref 0), some (.int (nI s)), some (.int (smI (fun p => if aw N (c p) 0 = 2 then 3 else 2) p)), some (.int (nI p))] [] N (ev_R (some (.int (smI (fun p => if aw N (c p) 0 = 2 then 3 else 2) n))) N) := by
    refine dn ?_ (fun p hp ih => ?_)
    · refine gX11_penceOf_4 ⟨i351 hs, fun _ => ⟨rfl, rfl⟩, fun h => absurd ?_ h⟩
      rw [c351 hs, hn]; exact nI_le (Nat.le_refl _) (by omega)
    · refine gX11_penceOf_4 ⟨i351 hs, fun h => ?_, fun _ => ⟨vp_in_nI (by omega) (by omega), ?_⟩⟩
      · rw [c351 hs, hn] at h; exact absurd h (nI_ge (by omega) (by omega))
      · rw [nI_clamp (by omega), (hc p hp).1, aw0 (hc p hp).2]
        refine ⟨awi0 (hc p hp).2, fun z => ?_, fun z => ?_⟩
        · rw [nI_1]; rw [smI, if_neg z] at ih; exact ih
        · rw [nI_1]; rw [smI, if_pos z] at ih; exact ih
  exact lp 0 (by omega)
theorem kX11_keyFor {w : Nat} {l : Nat} (hw : w < 24) (hl : l < 26) : Cl LM (d + 2) mX11_keyFor [.ref 0, .int (nI w), .int (nI l)] N (ev_R (some (.int (kyf (aw N w 0) (fun l => N.1 1 (399 + 2 * l)) (N.1 1 9) (nI l)))) N) := by
  unfold kyf
  refine Cl_of rfl (Nat.le_of_ble_eq_true rfl) rfl (gX11_keyFor_0 ⟨fun z => ⟨awi0 hw, ?_⟩, fun z => ?_⟩)
  · rw [if_pos z, aw0 hw]
    refine ⟨fun y => ?_, fun y => ⟨am_in hl, ?_⟩⟩
    · rw [if_neg y]; exact ⟨rfl, rfl⟩
    · rw [if_pos y, am_at hl, nI_clamp (by omega)]; exact ⟨rfl, rfl⟩
  · rw [if_neg (by rw [z]; decide)]; exact ⟨rfl, rfl⟩
/-- the class's stiffness by a text -/
theorem stiffByN {x : Int32} {w : Nat} (h : sdR M N W T (M.1 43 0)) (hw : w < W) (hx : x = -1 ∨ ∃ t, t < T ∧ x = nI t) :
    Cl LX (d + 3) mX10_stiffnessBy [.ref 0, tv x, .int (nI w)] M (fun r M2 => r = some (.int (stN N x w)) ∧ lfr M M2) := by
  have hT := h.t4
  have htv := tv_ok (x := x) (by rcases hx with z | ⟨t, ht, z⟩; exact Or.inl z; exact Or.inr ⟨t, by omega, z⟩)
  have hH : mH N (nI w) ≤ 9 := by rw [← sd_xH h hw]; exact xH_le (sd_wd h hw)
  have body : Ev LX (d + 3) mX10_stiffnessBy 0 [some (.ref 0), some (tv x), some (.int (nI w))] [] M (fun r M2 => r = some (.int (stN N x w)) ∧ lfr M M2) := by
    refine gX10_stiffnessByV_0 htv ⟨sd_wd h hw, sd_wd h hw, ?_⟩
    rw [sd_xH h hw, sd_xE h hw]
    refine ⟨_, stiffV (d := d) h (fun _ _ => rfl) hw hx (bc_up h.lu) ⟨_, hH, rfl⟩ (sd_ex h hw), fun zr M2 q => ?_⟩
    rw [q.1]
    refine gX10_stiffnessByV_49 htv ⟨?_, q.2⟩
    rw [stN_hvl, h.lo]
  rcases htv with e | ⟨k, hk, e⟩
  · rw [e] at body ⊢; exact Cl_of rfl (Nat.le_of_ble_eq_true rfl) rfl body
  · rw [e] at body ⊢; exact Cl_of rfl (Nat.le_of_ble_eq_true rfl) rfl body
end
