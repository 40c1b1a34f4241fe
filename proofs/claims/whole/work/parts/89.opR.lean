/-! CALLS: meant, fits, book -/
section
variable {d B : Nat} {M N : ev_Mem} {W T S s f : Nat} {lo : Int32}
def alp (b l : Int32) : Bool := decide (b = 45) || decide (b = 97 + l)
theorem kX10_isAlike {k0 k1 n : Nat} (h0 : LX[k0]? = some (.inl (0, 9, 0, ev_k0))) (h1 : LX[k1]? = some (.inl (0, 9, 0, ev_k0))) (hn : n ≤ 9) : Cl LX d mX10_isAlike [.ref k0, .ref k1, .int (nI n)] M (ev_R (some (.int (bi (al (fun j => alp (M.1 k1 j) (M.1 k0 j)) n)))) M) := by
  refine Cl_of rfl (Nat.le_of_ble_eq_true rfl) rfl (gX10_isAlike_0 h0 h1 ?_)
  have lp : ∀ i, i ≤ n → (∀ j, j < i → alp (M.1 k1 j) (M.1 k0 j) = true) → Ev LX d mX10_isAlike 2 [some (.ref k0), some (.ref k1), some (.int (nI n)), some (.int (nI i))] [] M (ev_R (some (.int (bi (al (fun j => alp (M.1 k1 j) (M.1 k0 j)) n)))) M) := by
    refine dn ?_ (fun i hi ih => ?_)
    · intro ha
      exact gX10_isAlike_2 h0 h1 ⟨fun _ => ⟨by rw [al_t.mpr ha]; rfl, rfl⟩, fun z => absurd (nI_le (Nat.le_refl _) (by omega)) z⟩
    · intro ha
      have nx : alp (M.1 k1 i) (M.1 k0 i) = true → Ev LX d mX10_isAlike 2 [some (.ref k0), some (.ref k1), some (.int (nI n)), some (.int (nI i + 1))] [] M (ev_R (some (.int (bi (al (fun j => alp (M.1 k1 j) (M.1 k0 j)) n)))) M) := fun q => by
        rw [nI_1]
        refine ih (fun j hj => ?_)
        by_cases e : j = i
        · rw [e]; exact q
        · exact ha j (by omega)
      have vi : vp_in (nI i) 9 := vp_in_nI (by omega) (by omega)
      refine gX10_isAlike_2 h0 h1 ⟨fun z => absurd z (nI_ge hi (by omega)), fun _ => ⟨vi, ?_⟩⟩
      rw [nI_clamp (by omega)]
      refine ⟨fun z => nx (by unfold alp; rw [decide_eq_true z]; rfl), fun z => ⟨vi, vi, fun y => nx (by unfold alp; rw [decide_eq_true y, Bool.or_true]), fun y => ⟨?_, rfl⟩⟩⟩
      rw [al_f hi (by unfold alp; rw [decide_eq_false z, decide_eq_false y]; rfl)]; rfl
  exact lp 0 (by omega) (fun j hj => absurd hj (by omega))
/-- line i of the report may have been word w -/
def mlp (N : ev_Mem) (i w j : Nat) : Bool := decide (N.1 1 (459 + 10 * i + 1 + j) = 26) || decide (N.1 1 (459 + 10 * i + 1 + j) = aw N w (4 + j))
def mnv (N : ev_Mem) (i w : Nat) : Bool := decide (aw N w 3 = N.1 1 (459 + 10 * i)) && al (mlp N i w) (lnW N w)
def mtv (N : ev_Mem) (i : Nat) : Nat → Int32
  | 0 => 0
  | n + 1 => if mnv N i n = true then mtv N i n ||| bitI n else mtv N i n
theorem alp_eq {b y : Int32} {l : Nat} (h : rRel b y) (hl : l < 26) : alp b (nI l) = (decide (y = 26) || decide (y = nI l)) := by
  unfold alp
  rw [show (97 : Int32) + nI l = nI (97 + l) by rw [show (97 : Int32) = nI 97 from rfl, nI_add]]
  rcases h with ⟨rfl, rfl⟩ | ⟨k, hk, rfl, rfl⟩
  · rw [decide_eq_true rfl, decide_eq_true rfl]; rfl
  · have a : ¬ nI (97 + k) = 45 := fun e => by have := (nI_eq (b := 45) (by omega) (by omega)).mp e; omega
    have b : ¬ nI k = 26 := fun e => by have := (nI_eq (b := 26) (by omega) (by omega)).mp e; omega
    rw [decide_eq_false a, decide_eq_false b]
    have : nI (97 + k) = nI (97 + l) ↔ nI k = nI l := by
      rw [nI_eq (by omega) (by omega), nI_eq (by omega) (by omega)]; omega
    rw [decide_eq_decide.mpr this]
theorem nR4_at {r : Nat} {x : Int32} {g : Nat → Int32} {k : Nat → Nat → Int32} {a : Nat → Int32} (h : nR4 x g k a) (hx : x = nI r) (hr5 : r ≤ 5) : a 6 = nI r ∧ ∀ i, i < r → g i = a (459 + 10 * i) ∧ ∃ n, 1 ≤ n ∧ n ≤ 9 ∧ a (459 + 10 * i) = nI n ∧ ∀ j, j < n → rRel (k i j) (a (459 + 10 * i + 1 + j)) := by
  obtain ⟨r2, h1, h2, h3, h4⟩ := h
  have : r2 = r := (nI_eq (by omega) (by omega)).mp (h2.symm.trans hx)
  subst this
  exact ⟨h3, h4⟩
theorem meantX {r i : Nat} (h : sdR M N W T lo) (hR : nR4 (M.1 47 8) (M.1 57) (fun i => M.1 (52 + i)) (N.1 1)) (hr : M.1 47 8 = nI r) (hr5 : r ≤ 5) (hi : i < r) : Cl LX (d + 1) mX10_meant [.ref 0, .int (nI i)] M (ev_R (some (.int (mtv N i W))) M) := by
  have h24 := h.w24
  obtain ⟨-, hA⟩ := nR4_at hR hr hr5
  obtain ⟨e57, n, n1, n9, en, hb⟩ := hA i hi
  refine Cl_of rfl (Nat.le_of_ble_eq_true rfl) rfl (gX10_meant_0 ⟨fun z => absurd z (nI_pos (by omega)), fun _ => ⟨fun _ => ?_, fun z => absurd (by rw [hr]; exact nI_lt hi (by omega)) z⟩⟩)
  have lp : ∀ w, w ≤ W → Ev LX (d + 1) mX10_meant 21 [some (.ref 0), some (.int (nI i)), some (.int (mtv N i w)), some (.int (nI w))] [] M (ev_R (some (.int (mtv N i W))) M) := by
    refine dn ?_ (fun w hw ih => ?_)
    · exact gX10_meant_21 ⟨fun _ => ⟨rfl, rfl⟩, fun z => absurd (by rw [h.mw]; exact nI_le (Nat.le_refl _) (by omega)) z⟩
    · obtain ⟨l1, l9, l3, l29, ll⟩ := sd_ln h hw
      have vw : vp_in (nI w) 24 := vp_in_nI (by omega) (by omega)
      have vi : vp_in (nI i) 5 := vp_in_nI (by omega) (by omega)
      rw [mtv] at ih
      refine gX10_meant_21 ⟨fun z => ?_, fun _ => ⟨vw, vi, ?_⟩⟩
      · rw [h.mw] at z; exact absurd z (nI_ge hw (by omega))
      · rw [nI_clamp (by omega), nI_clamp (by omega), l29, e57]
        refine ⟨fun z => ?_, fun z => ⟨vw, vi, vw, ?_⟩⟩
        · have : mnv N i w = false := by unfold mnv; rw [l3, decide_eq_false z]; rfl
          rw [this, if_neg (by decide)] at ih
          rw [nI_1]; exact ih
        · have enl : n = lnW N w := by rw [en] at z; exact ((nI_eq (by omega) (by omega)).mp z).symm
          have e5 : LX[5 + w]? = some (.inl (0, 9, 0, ev_k0)) := lx_sp (by omega)
          have e52 : LX[52 + i]? = some (.inl (0, 9, 0, ev_k0)) := lx_re (by omega)
          refine ⟨_, kX10_isAlike (d := d) e5 e52 l9, fun zr M2 q => ?_⟩
          have ev : al (fun j => alp (M.1 (52 + i) j) (M.1 (5 + w) j)) (lnW N w) = mnv N i w := by
            unfold mnv
            rw [l3, z, decide_eq_true rfl, Bool.true_and]
            refine al_cong fun j hj => ?_
            obtain ⟨e, l, hl, el⟩ := ll j hj
            rw [e, el, alp_eq (hb j (by omega)) (by omega)]
            unfold mlp
            rw [el]
          rw [q.1, q.2, ev]
          refine gX10_meant_83 ⟨fun y => ?_, fun y v1 e1 => ?_⟩
          · rw [if_neg (by rw [(bi_0 _).mp y]; decide)] at ih
            rw [nI_1]; exact ih
          · rw [if_pos ((bi_n0 _).mp y)] at ih
            rw [nI_1, e1]; exact ih
  exact lp 0 (by omega)
theorem i459 {i : Nat} (hi : i < 5) : (459 : Int32) + 10 * nI i = nI (459 + 10 * i) := by rw [show (459 : Int32) = nI 459 from rfl, show (10 : Int32) = nI 10 from rfl, pk_mul, nI_add]
theorem kX11_isMeant {i w : Nat} (h : sdR M N W T lo) (hi : i < 5) (hw : w < W) (hb : ∃ n, n ≤ 9 ∧ N.1 1 (459 + 10 * i) = nI n) : Cl LM (d + 1) mX11_isMeant [.ref 0, .int (nI i), .int (nI w)] N (ev_R (some (.int (bi (mnv N i w)))) N) := by
  have h24 := h.w24
  obtain ⟨l1, l9, l3, l29, ll⟩ := sd_ln h hw
  obtain ⟨n, n9, en⟩ := hb
  refine Cl_of rfl (Nat.le_of_ble_eq_true rfl) rfl (gX11_isMeant_0 ?_)
  rw [i459 hi, nI_clamp (by omega), aw3 (by omega), l3]
  refine ⟨awi3 (by omega), vp_in_nI (by omega) (by omega), fun z => ?_, fun z => ⟨?_, rfl⟩⟩
  · have enl : n = lnW N w := by rw [en] at z; exact ((nI_eq (by omega) (by omega)).mp z).symm
    have ev : mnv N i w = al (mlp N i w) (lnW N w) := by unfold mnv; rw [l3, z, decide_eq_true rfl, Bool.true_and]
    rw [ev]
    have lp : ∀ j, j ≤ lnW N w → (∀ k, k < j → mlp N i w k = true) → Ev LM (d + 1) mX11_isMeant 29 [some (.ref 0), none, some (.int (nI w)), some (.int (nI (459 + 10 * i))), some (.int (nI j))] [] N (ev_R (some (.int (bi (al (mlp N i w) (lnW N w))))) N) := by
      refine dn ?_ (fun j hj ih => ?_)
      · intro ha
        refine gX11_isMeant_29 ⟨vp_in_nI (by omega) (by omega), fun _ => ⟨by rw [al_t.mpr ha]; rfl, rfl⟩, fun y => absurd ?_ y⟩
        rw [nI_clamp (by omega), ← z]; exact nI_le (Nat.le_refl _) (by omega)
      · intro ha
        have nx : mlp N i w j = true → Ev LM (d + 1) mX11_isMeant 29 [some (.ref 0), none, some (.int (nI w)), some (.int (nI (459 + 10 * i))), some (.int (nI j + 1))] [] N (ev_R (some (.int (bi (al (mlp N i w) (lnW N w))))) N) := fun q => by
          rw [nI_1]
          refine ih (fun k hk => ?_)
          by_cases e : k = j
          · rw [e]; exact q
          · exact ha k (by omega)
        refine gX11_isMeant_29 ⟨vp_in_nI (by omega) (by omega), fun y => ?_, fun _ => ?_⟩
        · rw [nI_clamp (by omega), ← z] at y; exact absurd y (nI_ge hj (by omega))
        · rw [nI_1, nI_add, nI_clamp (by omega), aw4 (by omega) (by omega)]
          have vx : vp_in (nI (459 + 10 * i + 1 + j)) 3315 := vp_in_nI (by omega) (by omega)
          refine ⟨vx, fun y => nx (by unfold mlp; rw [decide_eq_true y]; rfl), fun y => ⟨vx, awi4 (by omega) (by omega), fun q => nx (by unfold mlp; rw [decide_eq_true q, Bool.or_true]), fun q => ⟨?_, rfl⟩⟩⟩
          rw [al_f hj (by unfold mlp; rw [decide_eq_false y, decide_eq_false q]; rfl)]; rfl
    exact lp 0 (by omega) (fun k hk => absurd hk (by omega))
  · have : mnv N i w = false := by unfold mnv; rw [l3, decide_eq_false z]; rfl
    rw [this]; rfl
theorem op_meant (h : RX B M N) (x : Int32) : OP 200 mX10_meant mX11_meant [.int x] B M N := by
  obtain ⟨W, S, T, Wk, Sk, Tk, h1, h2, h3, h4, h5, h6⟩ := id h
  obtain ⟨hsd, hS⟩ := RX_sd h1 h4
  have h24 := hsd.w24
  obtain ⟨-, -, -, q4, -⟩ := nRel_iff.mp h1.1.2.2.2
  obtain ⟨r, hr5, hr, hr6, hA⟩ := id q4
  by_cases hx : ∃ i, i < r ∧ x = nI i
  · obtain ⟨i, hi, rfl⟩ := hx
    obtain ⟨-, n, n1, n9, en, -⟩ := hA i hi
    refine op_ro (v := some (.int (mtv N i W))) h (Cl.mono (meantX (d := 199) hsd q4 hr hr5 hi) (fun z M2 q => ⟨q.1, by rw [q.2]; exact xq.rf⟩)) ?_
    refine Cl_of rfl (Nat.le_of_ble_eq_true rfl) rfl (gX11_meant_0 (d := 199) ?_)
    rw [hr6]
    refine ⟨fun _ => ?_, fun z => bb z ((iin_N (by omega)).mpr ⟨i, hi, rfl⟩)⟩
    have lp : ∀ w, w ≤ W → Ev LM 200 mX11_meant 23 [some (.ref 0), some (.int (nI i)), some (.int (mtv N i w)), some (.int (nI w))] [] N (fun r N2 => r = some (.int (mtv N i W)) ∧ pe N N2) := by
      refine dn ?_ (fun w hw ih => ?_)
      · exact gX11_meant_23 (d := 199) ⟨fun _ => ⟨rfl, pe.rf⟩, fun z => absurd (by rw [hsd.nw]; exact nI_le (Nat.le_refl _) (by omega)) z⟩
      · rw [mtv] at ih
        refine gX11_meant_23 (d := 199) ⟨fun z => ?_, fun _ => ⟨_, kX11_isMeant (d := 198) hsd (by omega) hw ⟨n, n9, en⟩, fun zr N2 q => ?_⟩⟩
        · rw [hsd.nw] at z; exact absurd z (nI_ge hw (by omega))
        · rw [q.1, q.2]
          refine gX11_meant_40 ⟨fun y => ?_, fun y v1 e1 => ?_⟩
          · rw [if_neg (by rw [(bi_0 _).mp y]; decide)] at ih
            rw [nI_1, or0]; exact ih
          · rw [if_pos ((bi_n0 _).mp y)] at ih
            rw [nI_1, e1]; exact ih
    exact lp 0 (by omega)
  · refine op_ro (v := some (.int (-1))) h ?_ ?_
    · refine Cl_of rfl (Nat.le_of_ble_eq_true rfl) rfl (gX10_meant_0 ⟨fun _ => ⟨rfl, xq.rf⟩, fun a => ⟨fun b => ?_, fun _ => ⟨rfl, xq.rf⟩⟩⟩)
      obtain ⟨i, hi, rfl⟩ := nI_of a
      rw [hr] at b
      exact absurd ⟨i, (nI_ltI hi (by omega)).mp b, rfl⟩ hx
    · refine Cl_of rfl (Nat.le_of_ble_eq_true rfl) rfl (gX11_meant_0 (d := 199) ⟨fun z => ?_, fun _ => ⟨rfl, pe.rf⟩⟩)
      rw [hr6] at z
      exact absurd ((iin_N (by omega)).mp z) hx
theorem bt_mtv {i w : Nat} (hw : w < 32) : ∀ n, n ≤ 24 → (bt (mtv N i n) w = true ↔ w < n ∧ mnv N i w = true)
  | 0, _ => by rw [mtv, b_0]; exact ⟨fun z => Bool.noConfusion z, fun z => absurd z.1 (by omega)⟩
  | n + 1, hn => by
    have ih := bt_mtv (i := i) hw n (by omega)
    rw [mtv]
    by_cases e : mnv N i n = true
    · rw [if_pos e, b_or, Bool.or_eq_true, ih]
      unfold bitI
      rw [bt_sh (by omega) hw, decide_eq_true_eq]
      constructor
      · rintro (⟨a, b⟩ | rfl)
        · exact ⟨by omega, b⟩
        · exact ⟨by omega, e⟩
      · rintro ⟨a, b⟩
        by_cases q : w = n
        · exact Or.inr q
        · exact Or.inl ⟨by omega, b⟩
    · rw [if_neg e, ih]
      refine ⟨fun ⟨a, b⟩ => ⟨by omega, b⟩, fun ⟨a, b⟩ => ⟨?_, b⟩⟩
      by_cases q : w = n
      · rw [q] at b; exact absurd b e
      · omega
def orb (p : Nat → Bool) : Nat → Bool
  | 0 => false
  | n + 1 => orb p n || p n
def ftw (N : ev_Mem) (s i w : Nat) : Bool := decide (aw N w 1 = N.1 1 (351 + 6 * s + 1 + i)) && mnv N i w
def ftv (N : ev_Mem) (W s : Nat) : Bool := al (fun i => orb (ftw N s i) W) (lnN N s)
def fit (N : ev_Mem) (W r : Nat) : Nat → Int32
  | 0 => 0
  | s + 1 => if (decide (lnN N s = r) && ftv N W s) = true then fit N W r s ||| bitI s else fit N W r s
theorem bi_or0 (b : Bool) : bi b ||| 0 = bi b := or0 _
theorem bi_or1 (b : Bool) : bi b ||| 1 = 1 := by cases b <;> decide
theorem op_fits (h : RX B M N) : OP 200 mX10_fits mX11_fits [] B M N := by
  obtain ⟨W, S, T, Wk, Sk, Tk, h1, h2, h3, h4, h5, h6⟩ := id h
  obtain ⟨hsd, hS⟩ := RX_sd h1 h4
  have h24 := hsd.w24
  have h8 := hS.1
  obtain ⟨-, -, -, q4, -⟩ := nRel_iff.mp h1.1.2.2.2
  obtain ⟨r, hr5, hr, hr6, hA⟩ := id q4
  refine op_ro (v := some (.int (fit N W r S))) h ?_ ?_
  · refine Cl_of rfl (Nat.le_of_ble_eq_true rfl) rfl (gX10_fits_0 ?_)
    have fr : ∀ s, s < S → lnN N s = r → Cl LX 199 mX10_fitsReport [.ref 0, .int (nI s)] M (ev_R (some (.int (bi (ftv N W s)))) M) := by
      intro s hsS er
      obtain ⟨n1, n5, nn, n42, nr⟩ := sen_n hS hsS
      refine Cl_of rfl (Nat.le_of_ble_eq_true rfl) rfl (gX10_fitsReport_0 ?_)
      have lp : ∀ i, i ≤ r → (∀ k, k < i → orb (ftw N s k) W = true) → Ev LX 199 mX10_fitsReport 2 [some (.ref 0), some (.int (nI s)), some (.int (nI i)), none, none, none] [] M (ev_R (some (.int (bi (ftv N W s)))) M) := by
        refine dn ?_ (fun i hi ih => ?_)
        · intro ha
          refine gX10_fitsReport_2 (d := 198) ⟨fun _ => ⟨?_, rfl⟩, fun z => absurd (by rw [hr]; exact nI_le (Nat.le_refl _) (by omega)) z⟩
          unfold ftv; rw [er, al_t.mpr ha]; rfl
        · intro ha
          refine gX10_fitsReport_2 (d := 198) ⟨fun z => ?_, fun _ => ⟨_, meantX (d := 197) hsd q4 hr hr5 hi, fun zr M2 q => ?_⟩⟩
          · rw [hr] at z; exact absurd z (nI_ge hi (by omega))
          · rw [q.1, q.2]
            refine gX10_fitsReport_18 ?_
            have lq : ∀ w, w ≤ W → Ev LX 199 mX10_fitsReport 25 [some (.ref 0), some (.int (nI s)), some (.int (nI i)), some (.int (mtv N i W)), some (.int (bi (orb (ftw N s i) w))), some (.int (nI w))] [] M (ev_R (some (.int (bi (ftv N W s)))) M) := by
              refine dn ?_ (fun w hw ih2 => ?_)
              · refine gX10_fitsReport_25 (d := 198) ⟨fun _ => ⟨fun z => ?_, fun z => ⟨?_, rfl⟩⟩, fun z => absurd (by rw [hsd.mw]; exact nI_le (Nat.le_refl _) (by omega)) z⟩
                · rw [nI_1]
                  refine ih (fun k hk => ?_)
                  by_cases e : k = i
                  · rw [e]; exact (bi_n0 _).mp z
                  · exact ha k (by omega)
                · unfold ftv; rw [er, al_f hi ((bi_0 _).mp z)]; rfl
              · rw [orb] at ih2
                have eb : hs (mtv N i W) (nI w) = mnv N i w := by
                  rw [hs_bt (by omega)]
                  have := bt_mtv (N := N) (i := i) (w := w) (by omega) W h24
                  cases a : bt (mtv N i W) w <;> cases b : mnv N i w <;> simp_all
                have e31 : M.1 31 w = aw N w 1 := (hsd.wr w hw).1.2.2.1
                refine gX10_fitsReport_25 (d := 198) ⟨fun z => ?_, fun _ => ?_⟩
                · rw [hsd.mw] at z; exact absurd z (nI_ge hw (by omega))
                · rw [eb, nI_clamp (by omega), nI_clamp (by omega), nI_clamp (by omega), e31, nr i (by omega)]
                  refine ⟨fun z => ?_, fun z => ⟨vp_in_nI (by omega) (by omega), vp_in_nI (by omega) (by omega), vp_in_nI (by omega) (by omega), fun y => ?_, fun y => ?_⟩⟩
                  · have : ftw N s i w = false := by unfold ftw; rw [z, Bool.and_false]
                    rw [this, Bool.or_false] at ih2
                    rw [nI_1, bi_or0]; exact ih2
                  · have : ftw N s i w = false := by unfold ftw; rw [decide_eq_false y, Bool.false_and]
                    rw [this, Bool.or_false] at ih2
                    rw [nI_1, bi_or0]; exact ih2
                  · have : ftw N s i w = true := by unfold ftw; rw [decide_eq_true y, z]; rfl
                    rw [this, Bool.or_true] at ih2
                    rw [nI_1, bi_or1]; exact ih2
            exact lq 0 (by omega)
      exact lp 0 (by omega) (fun k hk => absurd hk (by omega))
    have lp : ∀ s, s ≤ S → Ev LX 200 mX10_fits 4 [some (.ref 0), some (.int (fit N W r s)), some (.int (nI s))] [] M (fun z M2 => z = some (.int (fit N W r S)) ∧ xq M M2) := by
      refine dn ?_ (fun s hsS ih => ?_)
      · exact gX10_fits_4 (d := 199) ⟨fun _ => ⟨rfl, xq.rf⟩, fun z => absurd (by rw [hS.2.1]; exact nI_le (Nat.le_refl _) (by omega)) z⟩
      · obtain ⟨n1, n5, nn, n42, nr⟩ := sen_n hS hsS
        rw [fit] at ih
        refine gX10_fits_4 (d := 199) ⟨fun z => ?_, fun _ => ⟨vp_in_nI (by omega) (by omega), ?_⟩⟩
        · rw [hS.2.1] at z; exact absurd z (nI_ge hsS (by omega))
        · rw [nI_clamp (by omega), n42, hr]
          refine ⟨fun z => ?_, fun z => ?_⟩
          · rw [decide_eq_false (p := lnN N s = r) (fun e => z (by rw [e])), Bool.false_and, if_neg (by decide)] at ih
            rw [nI_1]; exact ih
          · have er : lnN N s = r := (nI_eq (by omega) (by omega)).mp z
            rw [decide_eq_true er, Bool.true_and] at ih
            refine ⟨_, fr s hsS er, fun zr M2 q => ?_⟩
            rw [q.1, q.2]
            refine gX10_fits_39 ⟨fun y => ?_, fun y v1 e1 => ?_⟩
            · rw [if_neg (by rw [(bi_0 _).mp y]; decide)] at ih
              rw [nI_1]; exact ih
            · rw [if_pos ((bi_n0 _).mp y)] at ih
              rw [nI_1, e1]; exact ih
    exact lp 0 (by omega)
  · refine Cl_of rfl (Nat.le_of_ble_eq_true rfl) rfl (gX11_fits_0 ?_)
    have fr : ∀ s, s < S → Cl LM 199 mX11_isFitting [.ref 0, .int (nI s)] N (ev_R (some (.int (bi (decide (lnN N s = r) && ftv N W s)))) N) := by
      intro s hsS
      obtain ⟨n1, n5, nn, n42, nr⟩ := sen_n hS hsS
      refine Cl_of rfl (Nat.le_of_ble_eq_true rfl) rfl (gX11_isFitting_0 (d := 198) ⟨i351 (by omega), ?_⟩)
      rw [c351 (by omega), nn, hr6]
      refine ⟨fun z => ?_, fun z => ⟨?_, rfl⟩⟩
      · have er : lnN N s = r := (nI_eq (by omega) (by omega)).mp z
        rw [decide_eq_true er, Bool.true_and]
        have lp : ∀ i, i ≤ r → (∀ k, k < i → orb (ftw N s k) W = true) → Ev LM 199 mX11_isFitting 19 [some (.ref 0), some (.int (nI s)), some (.int (nI i)), none, none] [] N (ev_R (some (.int (bi (ftv N W s)))) N) := by
          refine dn ?_ (fun i hi ih => ?_)
          · intro ha
            refine gX11_isFitting_19 (d := 198) ⟨i351 (by omega), ?_⟩
            rw [c351 (by omega), nn, er]
            refine ⟨fun _ => ⟨?_, rfl⟩, fun y => absurd (nI_le (Nat.le_refl _) (by omega)) y⟩
            unfold ftv; rw [er, al_t.mpr ha]; rfl
          · intro ha
            refine gX11_isFitting_19 (d := 198) ⟨i351 (by omega), ?_⟩
            rw [c351 (by omega), nn, er]
            refine ⟨fun y => absurd y (nI_ge hi (by omega)), fun _ => ?_⟩
            obtain ⟨-, n, -, n9, en, -⟩ := hA i hi
            have lq : ∀ w, w ≤ W → Ev LM 199 mX11_isFitting 33 [some (.ref 0), some (.int (nI s)), some (.int (nI i)), some (.int (bi (orb (ftw N s i) w))), some (.int (nI w))] [] N (ev_R (some (.int (bi (ftv N W s)))) N) := by
              refine dn ?_ (fun w hw ih2 => ?_)
              · refine gX11_isFitting_33 (d := 198) ⟨fun _ => ⟨fun y => ?_, fun y => ⟨?_, rfl⟩⟩, fun y => absurd (by rw [hsd.nw]; exact nI_le (Nat.le_refl _) (by omega)) y⟩
                · rw [nI_1]
                  refine ih (fun k hk => ?_)
                  by_cases e : k = i
                  · rw [e]; exact (bi_n0 _).mp y
                  · exact ha k (by omega)
                · unfold ftv; rw [er, al_f hi ((bi_0 _).mp y)]; rfl
              · rw [orb] at ih2
                have e352 : (351 : Int32) + 6 * nI s + 1 + nI i = nI (351 + 6 * s + 1 + i) := by rw [s351 (by omega), nI_1, nI_add]
                refine gX11_isFitting_33 (d := 198) ⟨fun y => ?_, fun _ => ⟨fun y => ?_, fun y => ?_⟩⟩
                · rw [hsd.nw] at y; exact absurd y (nI_ge hw (by omega))
                · rw [(bi_n0 _).mp y, Bool.true_or] at ih2
                  rw [nI_1]; exact ih2
                · rw [(bi_0 _).mp y, Bool.false_or] at ih2
                  rw [e352, nI_clamp (by omega), aw1 (by omega)]
                  refine ⟨awi1 (by omega), vp_in_nI (by omega) (by omega), fun x => ?_, fun x => ⟨_, kX11_isMeant (d := 197) hsd (by omega) hw ⟨n, n9, en⟩, fun zr N2 q => ?_⟩⟩
                  · have : ftw N s i w = false := by unfold ftw; rw [decide_eq_false x, Bool.false_and]
                    rw [this] at ih2
                    rw [nI_1]; exact ih2
                  · have e : ftw N s i w = mnv N i w := by unfold ftw; rw [decide_eq_true x, Bool.true_and]
                    rw [e] at ih2
                    rw [q.1, q.2]
                    refine gX11_isFitting_82 ⟨fun v => ?_, fun v => ?_⟩
                    · rw [(bi_0 _).mp v] at ih2; rw [nI_1]; exact ih2
                    · rw [(bi_n0 _).mp v] at ih2; rw [nI_1]; exact ih2
            exact lq 0 (by omega)
        exact lp 0 (by omega) (fun k hk => absurd hk (by omega))
      · rw [decide_eq_false (p := lnN N s = r) (fun e => z (by rw [e]))]; rfl
    have lp : ∀ s, s ≤ S → Ev LM 200 mX11_fits 4 [some (.ref 0), some (.int (fit N W r s)), some (.int (nI s))] [] N (fun z N2 => z = some (.int (fit N W r S)) ∧ pe N N2) := by
      refine dn ?_ (fun s hsS ih => ?_)
      · exact gX11_fits_4 (d := 199) ⟨fun _ => ⟨rfl, pe.rf⟩, fun z => absurd (by rw [hS.2.2.1]; exact nI_le (Nat.le_refl _) (by omega)) z⟩
      · rw [fit] at ih
        refine gX11_fits_4 (d := 199) ⟨fun z => ?_, fun _ => ⟨_, fr s hsS, fun zr N2 q => ?_⟩⟩
        · rw [hS.2.2.1] at z; exact absurd z (nI_ge hsS (by omega))
        · rw [q.1, q.2]
          refine gX11_fits_20 ⟨fun y => ?_, fun y v1 e1 => ?_⟩
          · rw [if_neg (by rw [(bi_0 _).mp y]; decide)] at ih
            rw [nI_1, or0]; exact ih
          · rw [if_pos ((bi_n0 _).mp y)] at ih
            rw [nI_1, e1]; exact ih
    exact lp 0 (by omega)
theorem imin_30 {lc : Nat} (h : lc < 2 ^ 31) : imin (nI lc) 30 = nI (min lc 30) := imin_nI (b := 30) h (by omega)
theorem op_book (hB : B < 2 ^ 30) (h : RX B M N) (x y : Int32) : OP 200 mX10_book mX11_book [.int x, .int y] B M N := by
  obtain ⟨W, S, T, Wk, Sk, Tk, ⟨⟨-, -, ⟨-, lc, wn, k, e, hlc, elc, ewn, ⟨bw, bl⟩, -⟩, -⟩, -⟩, -⟩ := id h
  have elc : M.1 43 6 = nI lc := elc
  have shown : ∀ d, Cl LX (d + 1) mX9_linesShown [.ref 43] M (ev_R (some (.int (nI wn))) M) := fun d => Cl_of rfl (Nat.le_of_ble_eq_true rfl) rfl (gX9_linesShown_0 ⟨by rw [elc, imin_30 (by omega), bw], rfl⟩)
  by_cases hx1 : x = -1
  · subst hx1
    refine op_ro (v := some (.int (nI wn))) h ?_ ?_
    · refine Cl_of rfl (Nat.le_of_ble_eq_true rfl) rfl (gX10_book_0 (d := 199) ⟨_, shown 198, fun zr M2 q => ?_⟩)
      rw [q.1, q.2]
      exact gX10_book_7 (d := 199) ⟨fun z => absurd rfl z, fun _ => ⟨rfl, xq.rf⟩⟩
    · exact Cl_of rfl (Nat.le_of_ble_eq_true rfl) rfl (gX11_book_0 (d := 199) ⟨fun z => absurd rfl z, fun _ => ⟨by rw [ewn], pe.rf⟩⟩)
  · by_cases hx : (∃ i, i < wn ∧ x = nI i) ∧ iin y 0 3 = true
    · obtain ⟨⟨i, hi, rfl⟩, hy⟩ := hx
      obtain ⟨c, hc3, rfl⟩ := (iin_lit 3 (by omega)).mp hy
      obtain ⟨r0, -, p, q', m, hp, hq, hm, r1, r2, r3, ey⟩ := bl i hi
      have ey : N.1 1 (3255 + (2 * i + 1)) = nI ((p * 4 + q') * 10000 + m) := ey
      have r0 : M.1 45 (4 * ((lc - wn + i) % 90)) = N.1 1 (3255 + 2 * i) := r0
      have r1 : M.1 45 (4 * ((lc - wn + i) % 90) + 1) = nI p := r1
      have r2 : M.1 45 (4 * ((lc - wn + i) % 90) + 2) = nI q' := r2
      have r3 : M.1 45 (4 * ((lc - wn + i) % 90) + 3) = nI m := r3
      have hmod : (lc - wn + i) % 90 < 90 := Nat.mod_lt _ (by omega)
      refine op_ro (v := some (.int (M.1 45 (4 * ((lc - wn + i) % 90) + c)))) h ?_ ?_
      · refine Cl_of rfl (Nat.le_of_ble_eq_true rfl) rfl (gX10_book_0 (d := 199) ⟨_, shown 198, fun zr M2 q => ?_⟩)
        rw [q.1, q.2]
        refine gX10_book_7 (d := 199) ⟨fun _ => ⟨fun z => absurd z (nI_pos (by omega)), fun _ => ⟨fun z => absurd z (nI_ge hi (by omega)), fun _ => ⟨fun z => absurd z (nI_pos (by omega)), fun _ => ⟨fun _ => ?_, fun z => absurd (nI_le (b := 3) hc3 (by omega)) z⟩⟩⟩⟩, fun z => absurd z (nI_nm1 (by omega))⟩
        have lpt : Cl LX 199 mX9_linePart [.ref 43, .int (nI i), .int (nI c)] M (ev_R (some (.int (M.1 45 (4 * ((lc - wn + i) % 90) + c)))) M) := by
          refine Cl_of rfl (Nat.le_of_ble_eq_true rfl) rfl (gX9_linePart_0 (d := 198) ⟨_, shown 197, fun zr M3 q3 => ?_⟩)
          rw [q3.1, q3.2, elc]
          have ea : (nI lc - nI wn + nI i - (nI lc - nI wn + nI i) / 90 * 90) * 4 + nI c = nI (4 * ((lc - wn + i) % 90) + c) := by
            rw [pk_sub (by omega), nI_add, show (90 : Int32) = nI 90 from rfl, pk_rem (by omega) (by omega) (by omega), show (4 : Int32) = nI 4 from rfl, pk_mul, nI_add, Nat.mul_comm]
          refine gX9_linePart_12 ?_
          rw [ea, nI_clamp (by omega)]
          exact ⟨vp_in_nI (by omega) (by omega), rfl, rfl⟩
        refine ⟨_, lpt, fun zr M3 q3 => ?_⟩
        rw [q3.1, q3.2]
        exact gX10_book_45 ⟨rfl, xq.rf⟩
      · have e3 : (3255 : Int32) + 2 * nI i = nI (3255 + 2 * i) := by rw [show (3255 : Int32) = nI 3255 from rfl, show (2 : Int32) = nI 2 from rfl, pk_mul, nI_add]
        refine Cl_of rfl (Nat.le_of_ble_eq_true rfl) rfl (gX11_book_0 (d := 199) ⟨fun _ => ⟨fun _ => ?_, fun z => ?_⟩, fun z => absurd z (nI_nm1 (by omega))⟩)
        · rw [e3, nI_1, nI_clamp (by omega), nI_clamp (by omega)]
          refine ⟨vp_in_nI (by omega) (by omega), fun v1 e1 => ?_⟩
          rw [show 3255 + 2 * i + 1 = 3255 + (2 * i + 1) by omega, ey] at e1
          rw [e1]
          refine ⟨fun z0 => ⟨fun z1 => ⟨fun z2 => ⟨fun z3 => ?_, fun z3 => ⟨?_, pe.rf⟩⟩, fun z2 => ⟨?_, pe.rf⟩⟩, fun z1 => ⟨?_, pe.rf⟩⟩, fun z0 => ⟨vp_in_nI (by omega) (by omega), ?_, pe.rf⟩⟩
          · have h0 : c ≠ 0 := fun q => z0 (by rw [q]; rfl)
            have h1 : c ≠ 1 := fun q => z1 (by rw [q]; rfl)
            have h2 : c ≠ 2 := fun q => z2 (by rw [q]; rfl)
            have h3 : c ≠ 3 := fun q => z3 (by rw [q]; rfl)
            omega
          · have : c = 3 := (nI_eq (b := 3) (by omega) (by omega)).mp z3
            rw [this, r3, show (10000 : Int32) = nI 10000 from rfl, pk_rem (by omega) (by omega) (by omega)]
            congr 3; omega
          · have : c = 2 := (nI_eq (b := 2) (by omega) (by omega)).mp z2
            rw [this, r2, show (10000 : Int32) = nI 10000 from rfl, show (4 : Int32) = nI 4 from rfl, pk_div (by omega) (by omega) (by omega), pk_rem (by omega) (by omega) (by omega)]
            congr 3; omega
          · have : c = 1 := (nI_eq (b := 1) (by omega) (by omega)).mp z1
            rw [this, r1, show (40000 : Int32) = nI 40000 from rfl, pk_div (by omega) (by omega) (by omega)]
            congr 3; omega
          · have : c = 0 := (nI_eq (b := 0) (by omega) (by omega)).mp z0
            rw [this, Nat.add_zero, r0]
        · rw [ewn, (iin_N (by omega)).mpr ⟨i, hi, rfl⟩] at z; cases z
    · refine op_ro (v := some (.int (-2))) h ?_ ?_
      · refine Cl_of rfl (Nat.le_of_ble_eq_true rfl) rfl (gX10_book_0 (d := 199) ⟨_, shown 198, fun zr M2 q => ?_⟩)
        rw [q.1, q.2]
        refine gX10_book_7 (d := 199) ⟨fun _ => ⟨fun _ => ⟨rfl, xq.rf⟩, fun a => ⟨fun _ => ⟨rfl, xq.rf⟩, fun b => ⟨fun _ => ⟨rfl, xq.rf⟩, fun c => ⟨fun c2 => ?_, fun _ => ⟨rfl, xq.rf⟩⟩⟩⟩⟩, fun z => absurd z hx1⟩
        obtain ⟨i, hi, rfl⟩ := nI_of a
        have : i < wn := by
          rcases Nat.lt_or_ge i wn with z | z
          · exact z
          · exact absurd (nI_le z hi) b
        exact absurd ⟨⟨i, this, rfl⟩, iin_t.mpr ⟨I_nlt.mp c, c2⟩⟩ hx
      · refine Cl_of rfl (Nat.le_of_ble_eq_true rfl) rfl (gX11_book_0 (d := 199) ⟨fun _ => ⟨fun a => ?_, fun _ => ⟨rfl, pe.rf⟩⟩, fun z => absurd z hx1⟩)
        rw [ewn] at a
        obtain ⟨i, hi, rfl⟩ := (iin_N (by omega)).mp a
        have e3 : (3255 : Int32) + 2 * nI i = nI (3255 + 2 * i) := by rw [show (3255 : Int32) = nI 3255 from rfl, show (2 : Int32) = nI 2 from rfl, pk_mul, nI_add]
        have no : ∀ c : Int32, iin c 0 3 = true → ¬ y = c := fun c hc e => hx ⟨⟨i, hi, rfl⟩, by rw [e]; exact hc⟩
        rw [e3, nI_1]
        refine ⟨vp_in_nI (by omega) (by omega), fun v1 e1 => ⟨fun _ => ⟨fun _ => ⟨fun _ => ⟨fun _ => ⟨rfl, pe.rf⟩, fun z => absurd z (no 3 rfl)⟩, fun z => absurd z (no 2 rfl)⟩, fun z => absurd z (no 1 rfl)⟩, fun z => absurd z (no 0 rfl)⟩⟩
end
