/-! the class: a sentence is spoken -/
section
variable {d : Nat} {M : ev_Mem}
theorem wd_cg {M2 : ev_Mem} {x : Int32} (h : ∀ k, k < 43 → M2.1 k = M.1 k) (q : wd M x) : wd M2 x := by
  obtain ⟨w, n, rfl, hw, hn, hl, hf, h1, h2, h3⟩ := q
  refine ⟨w, n, rfl, hw, hn, ?_⟩
  rw [h 29 (by omega), h (5 + w) (by omega), h 30 (by omega), h 31 (by omega), h 32 (by omega)]
  exact ⟨hl, hf, h1, h2, h3⟩
theorem xH_cg {M2 : ev_Mem} {w : Nat} {s : Int32} (hw : w < 24) (h : ∀ k, k < 43 → M2.1 k = M.1 k) : xH M2 (nI w) s = xH M (nI w) s := by
  unfold xH
  rw [nI_clamp (by omega), h 29 (by omega), h (5 + w) (by omega)]
theorem xS_cg {M2 : ev_Mem} {w : Nat} {s : Int32} (hw : w < 24) (h : ∀ k, k < 43 → M2.1 k = M.1 k) : xS M2 (nI w) s = xS M (nI w) s := by
  unfold xS
  rw [xH_cg hw h, nI_clamp (by omega), h 30 (by omega)]
/-- before v: none or word a -/
def bfo (kd : Nat → Int32) (x : Option Nat) (v : Nat) : Nat := match x with
  | none => 0
  | some a => btw kd a v
theorem btI_ok {x : Option Nat} {v : Nat} (hx : ∀ a, x = some a → a < 24) (hv : v < 24) : btI M (onI x) (nI v) = nI (bfo (M.1 30) x v) := by
  cases x with
  | none => rfl
  | some a =>
    have := hx a rfl
    unfold btI
    show (if nI a = -1 then 0 else bhd (M.1 30 (nI a).toNatClampNeg) (M.1 30 (nI v).toNatClampNeg) (nI a) (nI v)) = _
    rw [if_neg (nI_nm1 (by omega)), nI_clamp (by omega), nI_clamp (by omega), bhd_btw (by omega) hv]
    rfl
theorem bfo_le {kd : Nat → Int32} {x : Option Nat} {v : Nat} : bfo kd x v ≤ 3 := by
  cases x with
  | none => exact Nat.zero_le _
  | some a => exact btw_le
theorem kX6_lowestBehind {p W : Nat} {x : Option Nat} {C : Nat → Nat} (hp : p < 5) (hx : ∀ a, x = some a → a < 24) (hW : M.1 3 5 = nI W) (hW24 : W ≤ 24) (hC : ∀ w, w < W → M.1 (92 + p) w = nI (C w) ∧ C w ≤ FARn) :
    Cl LX (d + 1) mX6_lowestBehind [.ref 86, .int (onI x), .int (nI p)] M (ev_R (some (.int (onI (bst (fun v => C v + bfo (M.1 30) x v) W)))) M) := by
  have F30 : FARn < 2 ^ 29 := by unfold FARn; omega
  refine Cl_of rfl (Nat.le_of_ble_eq_true rfl) rfl (gX6_lowestBehind_0 ?_)
  have lp : ∀ i, i ≤ W → Ev LX (d + 1) mX6_lowestBehind 9 [some (.ref 86), some (.int (onI x)), some (.int (nI p)), some (.int (onI (bst (fun v => C v + bfo (M.1 30) x v) i))), some (.int (nI (bsv (fun v => C v + bfo (M.1 30) x v) i))), some (.int (nI i)), none] [] M (ev_R (some (.int (onI (bst (fun v => C v + bfo (M.1 30) x v) W)))) M) := by
    refine dn ?_ (fun i hi ih => ?_)
    · refine gX6_lowestBehind_9 ⟨fun _ => ⟨rfl, rfl⟩, fun h => absurd ?_ h⟩
      rw [hW]; exact nI_le (Nat.le_refl _) (by omega)
    · have hv : vp_in (nI i) 24 := vp_in_nI (by omega) (by omega)
      have hb := bfo_le (kd := M.1 30) (x := x) (v := i)
      have hc := (hC i hi).2
      have hB := (bsv_le (f := fun v => C v + bfo (M.1 30) x v) (n := i)).1
      refine gX6_lowestBehind_9 ⟨fun h => ?_, fun _ => ⟨vp_in_nI hp (by omega), hv, ⟨?_, hv⟩, fun v1 e1 => ?_⟩⟩
      · rw [hW] at h
        exact absurd h (nI_ge (by omega) (by omega))
      · cases x with
        | none => exact Or.inl rfl
        | some a => exact Or.inr (vp_in_nI (hx a rfl) (by omega))
      · rw [nI_clamp (by omega), nI_clamp (by omega), (hC i hi).1, btI_ok hx (by omega), nI_add] at e1
        rw [e1, nI_1]
        refine ⟨fun h => ?_, fun h => ?_⟩
        · have h2 : bsv (fun v => C v + bfo (M.1 30) x v) i ≤ C i + bfo (M.1 30) x i := (nI_leI (by omega) (by omega)).mp h
          have z1 := bst_ge (f := fun v => C v + bfo (M.1 30) x v) h2
          have z2 : bsv (fun v => C v + bfo (M.1 30) x v) (i + 1) = bsv (fun v => C v + bfo (M.1 30) x v) i := by rw [bsv_s, if_neg (by omega)]
          rw [z1, z2] at ih
          exact ih
        · have h2 : C i + bfo (M.1 30) x i < bsv (fun v => C v + bfo (M.1 30) x v) i := by
            rcases Nat.lt_or_ge (C i + bfo (M.1 30) x i) (bsv (fun v => C v + bfo (M.1 30) x v) i) with z | z
            · exact z
            · exact absurd (nI_le z (by omega)) h
          have z1 := bst_ls (f := fun v => C v + bfo (M.1 30) x v) h2
          have z2 : bsv (fun v => C v + bfo (M.1 30) x v) (i + 1) = C i + bfo (M.1 30) x i := by rw [bsv_s, if_pos h2]
          rw [z1, z2] at ih
          exact ih
  exact lp 0 (by omega)
def smI (f : Nat → Int32) : Nat → Int32
  | 0 => 0
  | n + 1 => smI f n + f n
theorem smI_cg {f g : Nat → Int32} : ∀ {n : Nat}, (∀ i, i < n → f i = g i) → smI f n = smI g n
  | 0, _ => rfl
  | n + 1, h => by rw [smI, smI, smI_cg (fun i hi => h i (by omega)), h n (by omega)]
def ofx (M M2 : ev_Mem) : Prop := (∀ k, k ≠ 86 → (k < 92 ∨ 99 < k) → M2.1 k = M.1 k) ∧ (∀ j, j < 13 ∨ 17 < j → M2.1 86 j = M.1 86 j) ∧ M2.2 = M.2
theorem ofx.rf : ofx M M := ⟨fun _ _ _ => rfl, fun _ _ => rfl, rfl⟩
theorem ofx.tr {M1 M2 : ev_Mem} (h : ofx M M1) (k : ofx M1 M2) : ofx M M2 := ⟨fun i h1 h2 => (k.1 i h1 h2).trans (h.1 i h1 h2), fun j hj => (k.2.1 j hj).trans (h.2.1 j hj), k.2.2.trans h.2.2⟩
theorem ofx_pfr {M2 : ev_Mem} (h : pfr M M2) : ofx M M2 := ⟨fun k h1 h2 => h.1 k (by omega), fun j _ => by rw [h.1 86 (by omega)], h.2⟩
theorem ofx_86 {j : Nat} {v : Int32} (hj : 13 ≤ j) (hj2 : j ≤ 17) : ofx M (ev_wr M 86 j v) := ⟨fun k h1 _ => wr_cell h1, fun i hi => wr_ne (by omega), rfl⟩
theorem ofx_99 {j : Nat} {v : Int32} : ofx M (ev_wr M 99 j v) := ⟨fun k h1 h2 => wr_cell (by omega), fun i hi => wr_ne (by omega), rfl⟩
/-- what was spoken -/
def spk (M M2 : ev_Mem) (n : Nat) (v : Nat) (ch : Nat → Nat) : Prop := M2.1 86 14 = nI v ∧ M2.1 86 13 = nI n ∧ (∀ p, p < n → M2.1 99 p = nI (ch p)) ∧ M2.1 86 15 = smI (fun p => xS M (nI (ch p)) (M.1 86 3)) n ∧ M2.1 86 16 = smI (fun p => M.1 29 (ch p)) n ∧ M2.1 86 17 = smI (fun p => if M.1 30 (ch p) = 2 then 3 else 2) n
def chX (M : ev_Mem) (sn : Nat → Nat) (W s n f : Nat) : Nat → Nat := chs (cpX M sn W s n) (M.1 30) W n f
theorem kX6_speak {s n W : Nat} {sn : Nat → Nat} (hs8 : s < 8) (hn1 : 1 ≤ n) (hn5 : n ≤ 5) (hn : M.1 42 s = nI n) (hW : M.1 3 5 = nI W) (hW24 : W ≤ 24) (hs : snR M sn W) (hwd : ∀ w, w < W → wd M (nI w)) :
    Cl LX (d + 4) mX6_speak [.ref 86, .int (nI s)] M (fun z M2 => ofx M M2 ∧ ((bst (cpX M sn W s n (n - 1)) W = none ∧ z = some (.int 0)) ∨ ∃ f, bst (cpX M sn W s n (n - 1)) W = some f ∧ z = some (.int 1) ∧ spk M M2 n (cpX M sn W s n (n - 1) f) (chX M sn W s n f))) := by
  have hb : ∀ k, k < 5 → ∀ w, w < W → cpX M sn W s n k w ≤ FARn := fun k hk w hw => by
    rcases cpk_b (kd := M.1 30) (se := M.1 31) (row := M.1 (34 + s)) (n := n) (snR_99 hs) k (by omega) w hw with z | z
    · exact Nat.le_of_eq z
    · unfold cpX FARn; omega
  have F30 : FARn < 2 ^ 29 := by unfold FARn; omega
  refine Cl_of rfl (Nat.le_of_ble_eq_true rfl) rfl (gX6_speak_0 ⟨_, kX6_costOf (d := d) hs8 hn1 hn5 hn hW hW24 hs, fun zr M1 q => ?_⟩)
  obtain ⟨q1, hf1, hr1⟩ := q
  rw [q1]
  have hBF := (bsv_le (f := cpX M sn W s n (n - 1)) (n := W)).1
  obtain ⟨o, eb⟩ : ∃ o, bst (cpX M sn W s n (n - 1)) W = o := ⟨_, rfl⟩
  cases o with
  | none =>
    refine gX6_speak_5 (s0 := nI (bsv (cpX M sn W s n (n - 1)) W)) ⟨fun h => ?_, fun _ => ⟨ofx_pfr hf1, Or.inl ⟨eb, rfl⟩⟩⟩
    rw [bsv_none eb] at h
    exact absurd ((nI_ltI (by omega) (by omega)).mp (show nI FARn < nI FARn from h)) (by omega)
  | some f =>
    obtain ⟨hfW, hfF⟩ := bst_lt eb
    have hok := chs_ok (kd := M.1 30) (se := M.1 31) (sn := sn) (row := M.1 (34 + s)) (n := n) hfW hfF
    refine gX6_speak_5 (s0 := nI (bsv (cpX M sn W s n (n - 1)) W)) ⟨fun _ M2 e2 => ⟨vp_in_nI hs8 (by omega), fun M3 e3 M4 e4 M5 e5 M6 e6 => ?_⟩, fun h => absurd (by rw [bsv_some eb]; exact (show nI _ < nI FARn from nI_lt hfF (by omega))) h⟩
    rw [bsv_some eb] at e2
    have c2 : ∀ k, k ≠ 86 → M2.1 k = M1.1 k := fun k hk => by rw [e2, wr_cell hk]
    rw [nI_clamp (by omega), c2 42 (by omega), hf1.1 42 (by omega), hn] at e3
    have of6 : ofx M M6 := by
      rw [e6, e5, e4, e3, e2]
      exact (((((ofx_pfr hf1).tr (ofx_86 (by omega) (by omega))).tr (ofx_86 (by omega) (by omega))).tr (ofx_86 (by omega) (by omega))).tr (ofx_86 (by omega) (by omega))).tr (ofx_86 (by omega) (by omega))
    have c6 : ∀ k, k ≠ 86 → M6.1 k = M1.1 k := fun k hk => by rw [e6, wr_cell hk, e5, wr_cell hk, e4, wr_cell hk, e3, wr_cell hk, c2 k hk]
    have lp : ∀ p, p ≤ n → ∀ Mi, ofx M Mi → (∀ p, p < n → Mi.1 (92 + p) = M1.1 (92 + p)) → spk M Mi 0 (cpX M sn W s n (n - 1) f) (chX M sn W s n f) ∨ True → Mi.1 86 14 = nI (cpX M sn W s n (n - 1) f) → Mi.1 86 13 = nI n → (∀ q, q < p → Mi.1 99 q = nI (chX M sn W s n f q)) → Mi.1 86 15 = smI (fun p => xS M (nI (chX M sn W s n f p)) (M.1 86 3)) p → Mi.1 86 16 = smI (fun p => M.1 29 (chX M sn W s n f p)) p → Mi.1 86 17 = smI (fun p => if M.1 30 (chX M sn W s n f p) = 2 then 3 else 2) p → ∀ x : Option Nat, (p < n → (p = 0 ∧ x = none) ∨ ∃ r, p = r + 1 ∧ x = some (chX M sn W s n f r)) → Ev LX (d + 4) mX6_speak 52 [some (.ref 86), none, none, some (.int (onI x)), some (.int (nI p)), none] [] Mi (fun z M2 => ofx M M2 ∧ ((bst (cpX M sn W s n (n - 1)) W = none ∧ z = some (.int 0)) ∨ ∃ f, bst (cpX M sn W s n (n - 1)) W = some f ∧ z = some (.int 1) ∧ spk M M2 n (cpX M sn W s n (n - 1) f) (chX M sn W s n f))) := by
      refine dn ?_ (fun p hp ih => ?_)
      · intro Mi ho hr _ h14 h13 h99 h15 h16 h17 x hx
        refine gX6_speak_52 ⟨fun _ => ⟨ho, Or.inr ⟨f, eb, rfl, h14, h13, h99, h15, h16, h17⟩⟩, fun h => absurd ?_ h⟩
        rw [h13]; exact nI_le (Nat.le_refl _) (by omega)
      · intro Mi ho hr _ h14 h13 h99 h15 h16 h17 x hx
        obtain ⟨k1, k2, k3⟩ := hok p hp
        have kW : chX M sn W s n f p < W := k1
        have o43 : ∀ k, k < 43 → Mi.1 k = M.1 k := fun k hk => ho.1 k (by omega) (by omega)
        have hxb : bst (fun v => cpX M sn W s n (n - 1 - p) v + bfo (Mi.1 30) x v) W = some (chX M sn W s n f p) := by
          rw [o43 30 (by omega)]
          rcases hx hp with ⟨rfl, rfl⟩ | ⟨r, rfl, rfl⟩
          · exact eb
          · exact (hok r (by omega)).2.2 hp
        have hxa : ∀ a, x = some a → a < 24 := by
          intro a ha
          rcases hx hp with ⟨-, h0⟩ | ⟨r, hr, h0⟩
          · rw [h0] at ha; cases ha
          · rw [h0] at ha
            cases ha
            have : chX M sn W s n f r < W := (hok r (by omega)).1
            omega
        refine gX6_speak_52 ⟨fun h => ?_, fun _ => ⟨_, kX6_lowestBehind (d := d + 2) (p := p) (x := x) (C := cpX M sn W s n (n - 1 - p)) (W := W) (by omega) hxa (by rw [o43 3 (by omega)]; exact hW) hW24 (fun w hw => ⟨by rw [hr p hp]; exact hr1 p hp w hw, hb _ (by omega) w hw⟩), fun zr zM q => ?_⟩⟩
        · rw [h13] at h
          exact absurd h (nI_ge (by omega) (by omega))
        · rw [q.1, q.2, hxb]
          have hwv : vp_in (nI (chX M sn W s n f p)) 24 := vp_in_nI (by omega) (by omega)
          refine gX6_speak_68 (d := d + 1) (s0 := nI (chX M sn W s n f p)) ⟨fun _ => ⟨vp_in_nI (by omega) (by omega), fun Ma ea => ?_⟩, fun h => absurd h (nI_nm1 (by omega))⟩
          rw [nI_clamp (by omega)] at ea
          have ca : ∀ k, k ≠ 99 → Ma.1 k = Mi.1 k := fun k hk => by rw [ea, wr_cell hk]
          have oa : ofx M Ma := by rw [ea]; exact ho.tr ofx_99
          have a43 : ∀ k, k < 43 → Ma.1 k = M.1 k := fun k hk => oa.1 k (by omega) (by omega)
          refine ⟨wd_cg a43 (hwd _ kW), fun Mb eb2 => ?_⟩
          rw [xS_cg (by omega) a43, ca 86 (by omega), h15, ho.2.1 3 (by omega)] at eb2
          have cb : ∀ k, k ≠ 86 → Mb.1 k = Ma.1 k := fun k hk => by rw [eb2, wr_cell hk]
          refine ⟨hwv, fun Mc ec => ?_⟩
          rw [nI_clamp (by omega), cb 29 (by omega), a43 29 (by omega), show Mb.1 86 16 = Mi.1 86 16 by rw [eb2, wr_ne (by omega), ca 86 (by omega)], h16] at ec
          have cc : ∀ k, k ≠ 86 → Mc.1 k = Ma.1 k := fun k hk => by rw [ec, wr_cell hk, cb k hk]
          refine ⟨hwv, ?_⟩
          rw [nI_clamp (by omega), cc 30 (by omega), a43 30 (by omega)]
          have e17 : Mc.1 86 17 = smI (fun p => if M.1 30 (chX M sn W s n f p) = 2 then 3 else 2) p := by rw [ec, wr_ne (by omega), eb2, wr_ne (by omega), ca 86 (by omega), h17]
          have oc : ofx M Mc := by rw [ec, eb2]; exact (oa.tr (ofx_86 (by omega) (by omega))).tr (ofx_86 (by omega) (by omega))
          have fin : ∀ (Md : ev_Mem) (y : Int32), y = (if M.1 30 (chX M sn W s n f p) = 2 then 3 else 2) → Md = ev_wr Mc 86 17 (Mc.1 86 17 + y) → Ev LX (d + 1 + 3) mX6_speak 52 [some (.ref 86), none, none, some (.int (nI (chX M sn W s n f p))), some (.int (nI p + 1)), none] [] Md (fun z M2 => ofx M M2 ∧ ((bst (cpX M sn W s n (n - 1)) W = none ∧ z = some (.int 0)) ∨ ∃ f, bst (cpX M sn W s n (n - 1)) W = some f ∧ z = some (.int 1) ∧ spk M M2 n (cpX M sn W s n (n - 1) f) (chX M sn W s n f))) := by
            intro Md y ey ed
            rw [nI_1]
            have cd : ∀ k, k ≠ 86 → Md.1 k = Ma.1 k := fun k hk => by rw [ed, wr_cell hk, cc k hk]
            refine ih Md (by rw [ed]; exact oc.tr (ofx_86 (by omega) (by omega))) (fun q hq => by rw [cd _ (by omega), ca _ (by omega)]; exact hr q hq) (Or.inr trivial) ?_ ?_ (fun q hq => ?_) ?_ ?_ ?_ (some (chX M sn W s n f p)) (fun _ => Or.inr ⟨p, rfl, rfl⟩)
            · rw [ed, wr_ne (by omega), ec, wr_ne (by omega), eb2, wr_ne (by omega), ca 86 (by omega)]; exact h14
            · rw [ed, wr_ne (by omega), ec, wr_ne (by omega), eb2, wr_ne (by omega), ca 86 (by omega)]; exact h13
            · rw [cd 99 (by omega), ea, wr_row]
              by_cases eq : q = p
              · subst eq; rw [pk_us]
              · rw [pk_un eq]; exact h99 q (by omega)
            · rw [ed, wr_ne (by omega), ec, wr_ne (by omega), eb2, wr_same]; rfl
            · rw [ed, wr_ne (by omega), ec, wr_same]; rfl
            · rw [ed, wr_same, e17, ey]; rfl
          refine ⟨fun h Md ed => fin Md _ (by rw [if_neg h]) ed, fun h Md ed => fin Md _ (by rw [if_pos h]) ed⟩
    refine lp 0 (by omega) M6 of6 (fun p hp => c6 _ (by omega)) (Or.inr trivial) ?_ ?_ (fun q hq => absurd hq (by omega)) ?_ ?_ ?_ none (fun _ => Or.inl ⟨rfl, rfl⟩)
    · rw [e6, wr_ne (by omega), e5, wr_ne (by omega), e4, wr_ne (by omega), e3, wr_ne (by omega), e2, wr_same]
    · rw [e6, wr_ne (by omega), e5, wr_ne (by omega), e4, wr_ne (by omega), e3, wr_same]
    · rw [e6, wr_ne (by omega), e5, wr_ne (by omega), e4, wr_same]; rfl
    · rw [e6, wr_ne (by omega), e5, wr_same]; rfl
    · rw [e6, wr_same]; rfl
end
