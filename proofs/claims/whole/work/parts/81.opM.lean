/-! CALLS: notices, lines -/
section
variable {d B : Nat} {M N : ev_Mem} {W T S s f : Nat} {lo : Int32}
def lcn (N : ev_Mem) : Nat → Nat
  | 0 => 0
  | n + 1 => ifb N n (lcn N n) (fun _ => lcn N n + 1)
def ods (N : ev_Mem) (s j f : Nat) : Nat := (noN N (nI j) (nI (cN N s (lnN N s - 1) f)) (scl N s f)).toNatClampNeg
def pas (N : ev_Mem) : Nat → Nat → Nat
  | 0 => fun _ => 0
  | n + 1 => ifb N n (pas N n) (fun f j => if j = lcn N n then 10 - ods N n (lcn N n) f else pas N n j)
theorem ods_eq {j : Nat} : noN N (nI j) (nI (cN N s (lnN N s - 1) f)) (scl N s f) = nI (ods N s j f) ∧ ods N s j f ≤ 10 := by
  unfold ods noN
  obtain ⟨n, hn, e⟩ := syv_up (tx := N.1 4) (nm := nN (N.1 1 8) (bc (N.1 1 9)) (nI j) (nI (cN N s (lnN N s - 1) f)) (scl N s f)) (us := usM (uNs N)) (x := N.1 1 3) (k := 2) (wo := nI (cN N s (lnN N s - 1) f) / 4) (t := 10) (by omega)
  have e : syv (N.1 4) (nN (N.1 1 8) (bc (N.1 1 9)) (nI j) (nI (cN N s (lnN N s - 1) f)) (scl N s f)) (usM (uNs N)) (N.1 1 3) 2 (nI (cN N s (lnN N s - 1) f) / 4) 10 = nI n := e
  rw [e, nI_clamp (by omega)]
  exact ⟨rfl, hn⟩
theorem lcn_le : ∀ n, lcn N n ≤ n
  | 0 => Nat.le_refl _
  | n + 1 => by
    have := lcn_le n
    rw [lcn]
    unfold ifb
    split
    · omega
    · dsimp only; omega
theorem lcn_m : ∀ {n m : Nat}, n ≤ m → lcn N n ≤ lcn N m
  | n, 0, h => by rw [show n = 0 by omega]; exact Nat.le_refl _
  | n, m + 1, h => by
    by_cases e : n = m + 1
    · rw [e]; exact Nat.le_refl _
    · have := lcn_m (n := n) (m := m) (by omega)
      rw [lcn]
      unfold ifb
      split
      · exact this
      · dsimp only; omega
theorem pas_st {n j : Nat} (hj : j < lcn N n) : ∀ {m : Nat}, n ≤ m → pas N m j = pas N n j
  | 0, h => by rw [show n = 0 by omega]
  | m + 1, h => by
    by_cases e : n = m + 1
    · rw [e]
    · have h1 : n ≤ m := by omega
      have := pas_st hj h1
      have h2 := lcn_m (N := N) h1
      rw [pas]
      cases eb : bN N m with
      | none => rw [ifb_n eb]; exact this
      | some f => rw [ifb_s eb]; show (if j = lcn N m then _ else _) = _; rw [if_neg (by omega)]; exact this
theorem pas_at {n : Nat} (hb : bN N n = some f) {m : Nat} (h : n < m) : pas N m (lcn N n) = 10 - ods N n (lcn N n) f := by
  have h1 : lcn N (n + 1) = lcn N n + 1 := by rw [lcn, ifb_s hb]
  rw [pas_st (n := n + 1) (by omega) (by omega), pas, ifb_s hb]
  exact if_pos rfl
theorem pas_10 : ∀ n j, pas N n j ≤ 10
  | 0, j => Nat.zero_le _
  | n + 1, j => by
    have := pas_10 n j
    rw [pas]
    cases eb : bN N n with
    | none => rw [ifb_n eb]; exact this
    | some f =>
      rw [ifb_s eb]
      show (if j = lcn N n then 10 - ods N n (lcn N n) f else pas N n j) ≤ 10
      split
      · omega
      · exact this
def unN (r : Nat → Nat) : Nat → Nat
  | 0 => 1
  | k + 1 => unN r k * r k
theorem unN_le {r : Nat → Nat} (h : ∀ j, r j ≤ 10) : ∀ k, unN r k ≤ 10 ^ k
  | 0 => Nat.le_refl _
  | k + 1 => by rw [unN, Nat.pow_succ]; exact Nat.mul_le_mul (unN_le h k) (h k)
theorem ten_8 {k : Nat} (h : k ≤ 8) : 10 ^ k ≤ 100000000 := Nat.pow_le_pow_right (n := 10) (by omega) h
theorem ten_1 (k : Nat) : 1 ≤ 10 ^ k := Nat.one_le_pow _ _ (by omega)
theorem secN1 {N2 : ev_Mem} (h : sdR M N W T lo) (hS : senR M N S) (hs : s < S) (hb : bN N s = some f) (e1 : N2.1 1 = N.1 1) (hc : ∀ p, p < lnN N s → N2.1 13 p = nI (hN N s f p)) : Cl LM (d + 4) mX11_secondsIn [.ref 0, .int (nI s)] N2 (ev_R (some (.int (scl N s f))) N2) := by
  obtain ⟨n1, n5, nn, -⟩ := sen_n hS hs
  have h8 := hS.1
  have lt := hN_lt hb
  have hW := sd_wN h
  have := kX11_secondsIn (d := d) (N := N2) (s := s) (n := lnN N s) (c := hN N s f) (by omega) n5 (by rw [e1]; exact nn) (fun p hp => ⟨hc p hp, wm_1 e1 (sd_wm h (by rw [← hW]; exact lt p hp))⟩)
  rw [show (fun p => mS N2 (nI (hN N s f p))) = fun p => mS N (nI (hN N s f p)) from funext fun p => mS_1 e1] at this
  exact this
theorem noticeM1 {Ni : ev_Mem} {li to se : Int32} (h : sdR M N W T lo) (e1 : Ni.1 1 = N.1 1) (e4 : Ni.1 4 = N.1 4) (hli : upto li 1000000) (hto : upto to 1000000) (hse : upto se 1000000) :
    Cl LM (d + 4) mX11_noticesOf [.ref 0, .int li, .int to, .int se] Ni (fun r N2 => r = some (.int (noN N li to se)) ∧ nfr Ni N2) := by
  have hs := sd_1 h e1 e4
  refine Cl.mono (kX11_noticesOf (d := d) (sd_lawI hs (by omega)) (sd_okU hs).2.1 ⟨upto_mono hs.da.2 (by omega), upto_mono (bc_up (by rw [hs.lo]; exact hs.lu)) (by omega), hli, hto, hse⟩) (fun r N2 q => ⟨?_, q.2⟩)
  rw [q.1, noN_1 e1 e4]
theorem ten_o {o : Nat} (h : o ≤ 10) : (10 : Int32) - nI o = nI (10 - o) := pk_sub (a := 10) h
theorem kX10_ways {k : Nat} {Mi : ev_Mem} (h : sdR M N W T (M.1 43 0)) (hS : senR M N S) (hk : k ≤ 8) (hq : qfr M Mi) (hh : hrd N Mi W (M.1 43 0)) :
    Cl LX (d + 5) mX10_waysUnnoticed [.ref 0, .int (nI k)] Mi (fun r M2 => r = some (.long (if k ≤ lcn N S then lN (unN (pas N S) k) else -1)) ∧ qfr M M2 ∧ hrd N M2 W (M.1 43 0)) := by
  have h8 := hS.1
  refine Cl_of rfl (Nat.le_of_ble_eq_true rfl) rfl (gX10_waysUnnoticed_0 ?_)
  have lp : ∀ i, i ≤ S → ∀ M2, qfr M M2 → hrd N M2 W (M.1 43 0) → lcn N i ≤ k → Ev LX (d + 5) mX10_waysUnnoticed 8 [some (.ref 0), some (.int (nI k)), some (.long (lN (unN (pas N S) (lcn N i)))), none, some (.int (nI (lcn N i))), some (.int (nI i))] [] M2 (fun r M2 => r = some (.long (if k ≤ lcn N S then lN (unN (pas N S) k) else -1)) ∧ qfr M M2 ∧ hrd N M2 W (M.1 43 0)) := by
    refine dn ?_ (fun i hi ih => ?_)
    · intro M2 hq hh hl
      have := lcn_le (N := N) S
      refine gX10_waysUnnoticed_8 (d := d + 4) ⟨fun _ => ⟨fun z => ⟨?_, hq, hh⟩, fun z => ⟨?_, hq, hh⟩⟩, fun z => absurd ?_ z⟩
      · rw [if_neg (fun q => z (by rw [show lcn N S = k by omega]))]
      · have e := (nI_eq (by omega) (by omega)).mp z
        rw [if_pos (by omega), e]
      · rw [hq.1 3 (by omega), hS.2.1]; exact nI_le (Nat.le_refl _) (by omega)
    · intro M2 hq hh hl
      have l1 := lcn_le (N := N) i
      refine gX10_waysUnnoticed_8 (d := d + 4) ⟨fun z => ?_, fun _ => ⟨fun z => ?_, fun z => ⟨_, speakH (d := d) h hS hi (fun k hk => hq.1 k (by omega)) hh, fun zr M3 q3 => ?_⟩⟩⟩
      · rw [hq.1 3 (by omega), hS.2.1] at z; exact absurd z (nI_ge hi (by omega))
      · have e : lcn N i = k := by have := (nI_leI (by omega) (by omega)).mp z; omega
        have := lcn_m (N := N) (n := i) (m := S) (by omega)
        refine ⟨fun y => absurd (by rw [e]) y, fun _ => ⟨?_, hq, hh⟩⟩
        rw [if_pos (by omega), e]
      · have hq3 := hq.tr (qfr_o q3.1)
        rcases q3.2.2 with ⟨hb, e⟩ | ⟨f, hb, e, p14, -, -, p15, -⟩
        · rw [e]
          refine gX10_waysUnnoticed_35 (d := d + 4) ⟨fun _ => ?_, fun z => absurd rfl z⟩
          rw [lcn, ifb_n hb] at ih
          rw [nI_1]; exact ih M3 hq3 q3.2.1 hl
        · rw [e]
          have p15 : M3.1 86 15 = scl N i f := p15
          have lk : lcn N i < k := by
            rcases Nat.lt_or_ge (lcn N i) k with q | q
            · exact q
            · exact absurd (nI_le q (by omega)) z
          refine gX10_waysUnnoticed_35 (d := d + 4) ⟨fun z => absurd z (by decide), fun _ => ⟨_, noticeV (d := d) h (fun k hk => hq3.1 k (by omega)) ⟨lcn N i, by omega, rfl⟩ (by rw [p14]; exact cN_up hb) (by rw [p15]; exact upto_mono (scl_up h hS hi hb) (by omega)), fun zr M4 q4 => ?_⟩⟩
          rw [p14, p15, ods_eq.1] at q4
          rw [q4.1]
          refine gX10_waysUnnoticed_47 fun v1 e1 => ?_
          have o10 := (ods_eq (N := N) (s := i) (f := f) (j := lcn N i)).2
          rw [ten_o o10, nI_l (by omega), lN_mul] at e1
          have := pas_at (m := S) hb hi
          rw [← this] at e1
          rw [lcn, ifb_s hb] at ih
          rw [nI_1, nI_1, e1]
          exact ih M4 (hq3.tr (qfr_l q4.2)) (hrd_l q4.2 q3.2.1) (by omega)
  exact lp 0 (by omega) Mi hq hh (Nat.zero_le _)
def ml (N N2 : ev_Mem) : Prop := (∀ k, 1 ≤ k → k ≤ 5 → N2.1 k = N.1 k) ∧ ∀ j, j ≠ 32 → N2.1 0 j = N.1 0 j
theorem ml_pe {N2 : ev_Mem} (h : ml N N2) : pe N N2 := ⟨⟨(h.1 1 (by omega) (by omega)).symm, (h.1 2 (by omega) (by omega)).symm, (h.1 3 (by omega) (by omega)).symm, (h.1 4 (by omega) (by omega)).symm, (h.1 5 (by omega) (by omega)).symm⟩, (h.2 5 (by omega)).symm, (h.2 6 (by omega)).symm, (h.2 7 (by omega)).symm⟩
theorem ml_o {N1 N2 : ev_Mem} (h : ml N N1) (k : me N1 N2) : ml N N2 := ⟨fun i h1 h2 => (k i h2).trans (h.1 i h1 h2), fun j hj => by rw [k 0 (by omega)]; exact h.2 j hj⟩
theorem kX11_layLines (h : sdR M N W T lo) (hS : senR M N S) : Cl LM (d + 6) mX11_layLines [.ref 0] N (fun r N2 => r = none ∧ ml N N2 ∧ N2.1 0 32 = nI (lcn N S) ∧ ∀ j, j < lcn N S → N2.1 17 j = nI (pas N S j)) := by
  have h8 := hS.1
  refine Cl_of rfl (Nat.le_of_ble_eq_true rfl) rfl (gX11_layLines_0 (d := d + 5) ⟨_, layN (d := d) h, fun zr N1 q => ?_⟩)
  rw [q.1]
  refine gX11_layLines_4 fun N2 e2 => ?_
  have lp : ∀ i, i ≤ S → ∀ N2, ml N N2 → laid N N2 W → N2.1 0 32 = nI (lcn N i) → (∀ j, j < lcn N i → N2.1 17 j = nI (pas N i j)) → Ev LM (d + 6) mX11_layLines 11 [some (.ref 0), some (.int (nI i)), none] [] N2 (fun r N2 => r = none ∧ ml N N2 ∧ N2.1 0 32 = nI (lcn N S) ∧ ∀ j, j < lcn N S → N2.1 17 j = nI (pas N S j)) := by
    refine dn ?_ (fun i hi ih => ?_)
    · intro N2 hq hl h32 h17
      refine gX11_layLines_11 (d := d + 5) ⟨fun _ => ⟨rfl, hq, h32, h17⟩, fun z => absurd ?_ z⟩
      rw [hq.1 1 (by omega) (by omega), hS.2.2.1]; exact nI_le (Nat.le_refl _) (by omega)
    · intro N2 hq hl h32 h17
      have l1 := lcn_le (N := N) i
      refine gX11_layLines_11 (d := d + 5) ⟨fun z => ?_, fun _ => ⟨_, leastN (d := d + 1) h hS hi (hq.1 1 (by omega) (by omega)) hl, fun zr N3 q3 => ?_⟩⟩
      · rw [hq.1 1 (by omega) (by omega), hS.2.2.1] at z; exact absurd z (nI_ge hi (by omega))
      · have hq3 := ml_o hq (me_o q3.1)
        have hl3 : laid N N3 W := fun w hw => by rw [q3.1.1 11 (by omega) (by omega)]; exact hl w hw
        have e32 : N3.1 0 32 = nI (lcn N i) := by rw [q3.1.1 0 (by omega) (by omega)]; exact h32
        have e17 : ∀ j, j < lcn N i → N3.1 17 j = nI (pas N i j) := fun j hj => by rw [q3.1.1 17 (by omega) (by omega)]; exact h17 j hj
        rcases q3.2 with ⟨hb, e⟩ | ⟨f, hb, e, hc⟩
        · rw [e]
          refine gX11_layLines_26 (d := d + 5) ⟨fun z => absurd rfl z, fun _ => ?_⟩
          rw [lcn, ifb_n hb, pas, ifb_n hb] at ih
          rw [nI_1]; exact ih N3 hq3 hl3 e32 e17
        · rw [e]
          rw [lcn, ifb_s hb, pas, ifb_s hb] at ih
          refine gX11_layLines_26 (d := d + 5) ⟨fun _ => ⟨_, secN1 (d := d + 1) h hS hi hb (hq3.1 1 (by omega) (by omega)) hc, fun zr N4 q4 => ?_⟩, fun z => absurd z (cN_nm (k := 0) hb)⟩
          rw [q4.1, q4.2, e32]
          refine gX11_layLines_56 (d := d + 5) ⟨_, noticeM1 (d := d + 1) h (hq3.1 1 (by omega) (by omega)) (hq3.1 4 (by omega) (by omega)) ⟨lcn N i, by omega, rfl⟩ (cN_up hb) (upto_mono (scl_up h hS hi hb) (by omega)), fun zr N5 q5 => ?_⟩
          rw [q5.1, ods_eq.1]
          have o10 := (ods_eq (N := N) (s := i) (f := f) (j := lcn N i)).2
          refine gX11_layLines_59 ⟨vp_in_nI (by omega) (by omega), fun N6 e6 N7 e7 => ?_⟩
          rw [ten_o o10, nI_clamp (by omega)] at e6
          have c6 : N6.1 0 32 = nI (lcn N i) := by rw [e6, wr_cell (by omega), q5.2.1 0 (by omega) (by omega)]; exact e32
          rw [c6, nI_1] at e7
          have hq5 := ml_o hq3 (me_n q5.2)
          rw [nI_1]
          refine ih N7 ⟨fun k k1 k2 => ?_, fun j hj => ?_⟩ (fun w hw => ?_) ?_ (fun j hj => ?_)
          · rw [e7, wr_cell (by omega), e6, wr_cell (by omega)]; exact hq5.1 k k1 k2
          · rw [e7, wr_ne (by omega), e6, wr_cell (by omega)]; exact hq5.2 j hj
          · rw [e7, wr_cell (by omega), e6, wr_cell (by omega), q5.2.1 11 (by omega) (by omega)]; exact hl3 w hw
          · rw [e7, wr_same]
          · rw [e7, wr_cell (by omega), e6]
            by_cases ej : j = lcn N i
            · rw [if_pos ej, ej, wr_same]
            · rw [if_neg ej, wr_ne (by omega), q5.2.1 17 (by omega) (by omega)]; exact e17 j (by omega)
  refine lp 0 (by omega) N2 ⟨fun k h1 h2 => by rw [e2, wr_cell (by omega)]; exact q.2.1 k h2, fun j hj => by rw [e2, wr_ne (by omega), q.2.1 0 (by omega)]⟩ (fun w hw => by rw [e2, wr_cell (by omega)]; exact q.2.2 w hw) (by rw [e2, wr_same]; rfl) (fun j hj => absurd hj (Nat.not_lt_zero _))
theorem kX10_waysInAll {k : Nat} (hk : k ≤ 8) : Cl LX d mX10_waysInAll [.int (nI k)] M (ev_R (some (.long (lN (10 ^ k)))) M) := by
  refine Cl_of rfl (Nat.le_of_ble_eq_true rfl) rfl (gX10_waysInAll_0 ?_)
  have lp : ∀ i, i ≤ k → Ev LX d mX10_waysInAll 4 [some (.int (nI k)), some (.long (lN (10 ^ i))), none, some (.int (nI i))] [] M (ev_R (some (.long (lN (10 ^ k)))) M) := by
    refine dn ?_ (fun i hi ih => ?_)
    · exact gX10_waysInAll_4 ⟨fun _ => ⟨rfl, rfl⟩, fun z => absurd (nI_le (Nat.le_refl _) (by omega)) z⟩
    · refine gX10_waysInAll_4 ⟨fun z => absurd z (nI_ge hi (by omega)), fun _ => ?_⟩
      rw [Nat.pow_succ] at ih
      rw [nI_1, show (10 : Int64) = lN 10 from rfl, lN_mul]; exact ih
  exact lp 0 (by omega)
theorem kX11_tens {k : Nat} (hk : k ≤ 8) : Cl LM d mX11_tens [.int (nI k)] N (ev_R (some (.long (lN (10 ^ k)))) N) := by
  refine Cl_of rfl (Nat.le_of_ble_eq_true rfl) rfl (gX11_tens_0 ?_)
  have lp : ∀ i, i ≤ k → Ev LM d mX11_tens 4 [some (.int (nI k)), some (.long (lN (10 ^ i))), none, some (.int (nI i))] [] N (ev_R (some (.long (lN (10 ^ k)))) N) := by
    refine dn ?_ (fun i hi ih => ?_)
    · exact gX11_tens_4 ⟨fun _ => ⟨rfl, rfl⟩, fun z => absurd (nI_le (Nat.le_refl _) (by omega)) z⟩
    · refine gX11_tens_4 ⟨fun z => absurd z (nI_ge hi (by omega)), fun _ => ?_⟩
      rw [Nat.pow_succ] at ih
      rw [nI_1, show (10 : Int64) = lN 10 from rfl, lN_mul]; exact ih
  exact lp 0 (by omega)
theorem kX11_unseen {k : Nat} {r : Nat → Nat} (hk : k ≤ 8) (hr : ∀ j, j < k → N.1 17 j = nI (r j)) (h10 : ∀ j, r j ≤ 10) : Cl LM d mX11_unseen [.ref 0, .int (nI k)] N (ev_R (some (.long (lN (unN r k)))) N) := by
  refine Cl_of rfl (Nat.le_of_ble_eq_true rfl) rfl (gX11_unseen_0 ?_)
  have lp : ∀ i, i ≤ k → Ev LM d mX11_unseen 5 [some (.ref 0), some (.int (nI k)), some (.long (lN (unN r i))), none, some (.int (nI i))] [] N (ev_R (some (.long (lN (unN r k)))) N) := by
    refine dn ?_ (fun i hi ih => ?_)
    · exact gX11_unseen_5 ⟨fun _ => ⟨rfl, rfl⟩, fun z => absurd (nI_le (Nat.le_refl _) (by omega)) z⟩
    · refine gX11_unseen_5 ⟨fun z => absurd z (nI_ge hi (by omega)), fun _ => ⟨vp_in_nI (by omega) (by omega), fun v1 e1 => ?_⟩⟩
      have := h10 i
      rw [nI_clamp (by omega), hr i hi, nI_l (by omega), lN_mul] at e1
      rw [nI_1, e1]; exact ih
  exact lp 0 (by omega)
theorem gcd_st (a b : Nat) : Nat.gcd a b = Nat.gcd b (a % b) := by rw [Nat.gcd_comm a b, Nat.gcd_rec b a, Nat.gcd_comm]
theorem lN_z {b : Nat} (hb : b < 2 ^ 62) : lg_cmp (lN b) 0 = 0 ↔ b = 0 := by
  rw [lg_cmp_eq]
  exact pk_lEQ (b := 0) (by omega) (by omega)
theorem half {b r : Nat} (hr : 0 < r) (h : r ≤ b) : 2 * (b % r) < b := by
  have h1 := Nat.mod_lt b hr
  have h2 := Nat.div_add_mod b r
  have h3 : 1 ≤ b / r := (Nat.one_le_div_iff hr).mpr h
  have h4 : r * 1 ≤ r * (b / r) := Nat.mul_le_mul_left r h3
  omega
theorem sdv : ∀ n a b i, b < 2 ^ n → n ≤ 40 → a < 2 ^ 62 → i + 2 * n ≤ 100 → Ev LX d mX10_sharedDivisor 9 [none, none, none, none, some (.long (lN a)), none, some (.long (lN b)), none, some (.int (nI i)), none, none] [] M (ev_R (some (.long (lN (Nat.gcd a b)))) M) := by
  have z0 : ∀ a i, Ev LX d mX10_sharedDivisor 9 [none, none, none, none, some (.long (lN a)), none, some (.long (lN 0)), none, some (.int (nI i)), none, none] [] M (ev_R (some (.long (lN a))) M) := fun a i => gX10_sharedDivisor_9 ⟨fun _ => ⟨rfl, rfl⟩, fun _ => ⟨fun _ => ⟨rfl, rfl⟩, fun z => absurd ((lN_z (by omega)).mpr rfl) z⟩⟩
  intro n
  induction n with
  | zero =>
    intro a b i hb _ _ _
    obtain rfl : b = 0 := by omega
    rw [Nat.gcd_zero_right]; exact z0 a i
  | succ n ih =>
    intro a b i hb hn ha hi
    have p62 : (2 : Nat) ^ (n + 1) ≤ 2 ^ 62 := Nat.pow_le_pow_right (by omega) (by omega)
    rcases Nat.eq_zero_or_pos b with rfl | b0
    · rw [Nat.gcd_zero_right]; exact z0 a i
    · refine gX10_sharedDivisor_9 ⟨fun z => absurd z (nI_ge (b := 100) (by omega) (by omega)), fun _ => ⟨fun z => absurd ((lN_z (by omega)).mp z) (by omega), fun z => ⟨fun q => z ((lg_cmp_eq _ _).mpr q), ?_⟩⟩⟩
      rw [pk_lRem (by omega) b0 (by omega), nI_1, gcd_st]
      have hr := Nat.mod_lt a b0
      rcases Nat.eq_zero_or_pos (a % b) with e | r0
      · rw [e, Nat.gcd_zero_right]; exact z0 b (i + 1)
      · refine gX10_sharedDivisor_9 ⟨fun z => absurd z (nI_ge (b := 100) (by omega) (by omega)), fun _ => ⟨fun z => absurd ((lN_z (by omega)).mp z) (by omega), fun z => ⟨fun q => z ((lg_cmp_eq _ _).mpr q), ?_⟩⟩⟩
        rw [pk_lRem (by omega) r0 (by omega), nI_1, gcd_st b]
        have hh := half r0 (Nat.le_of_lt hr)
        rw [Nat.pow_succ] at hb
        exact ih (a % b) (b % (a % b)) (i + 1 + 1) (by omega) (by omega) (by omega) (by omega)
theorem cmn : ∀ n a b, b < 2 ^ n → n ≤ 40 → a < 2 ^ 62 → Ev LM d mX11_common 6 [none, none, none, none, some (.long (lN a)), none, some (.long (lN b)), none, none, none] [] N (ev_R (some (.long (lN (Nat.gcd a b)))) N) := by
  have z0 : ∀ a, Ev LM d mX11_common 6 [none, none, none, none, some (.long (lN a)), none, some (.long (lN 0)), none, none, none] [] N (ev_R (some (.long (lN a))) N) := fun a => gX11_common_6 ⟨fun _ => ⟨rfl, rfl⟩, fun z => absurd ((lN_z (by omega)).mpr rfl) z⟩
  intro n
  induction n with
  | zero =>
    intro a b hb _ _
    obtain rfl : b = 0 := by omega
    rw [Nat.gcd_zero_right]; exact z0 a
  | succ n ih =>
    intro a b hb hn ha
    have p62 : (2 : Nat) ^ (n + 1) ≤ 2 ^ 62 := Nat.pow_le_pow_right (by omega) (by omega)
    rcases Nat.eq_zero_or_pos b with rfl | b0
    · rw [Nat.gcd_zero_right]; exact z0 a
    · refine gX11_common_6 ⟨fun z => absurd ((lN_z (by omega)).mp z) (by omega), fun z => ⟨fun q => z ((lg_cmp_eq _ _).mpr q), ?_⟩⟩
      rw [pk_lRem (by omega) b0 (by omega), gcd_st]
      have hr := Nat.mod_lt a b0
      rcases Nat.eq_zero_or_pos (a % b) with e | r0
      · rw [e, Nat.gcd_zero_right]; exact z0 b
      · refine gX11_common_6 ⟨fun z => absurd ((lN_z (by omega)).mp z) (by omega), fun z => ⟨fun q => z ((lg_cmp_eq _ _).mpr q), ?_⟩⟩
        rw [pk_lRem (by omega) r0 (by omega), gcd_st b]
        have hh := half r0 (Nat.le_of_lt hr)
        rw [Nat.pow_succ] at hb
        exact ih (a % b) (b % (a % b)) (by omega) (by omega) (by omega)
theorem m1L : ¬ (-1 : Int64) = lN 0 := by decide
theorem lN_nm {n : Nat} (h : n < 2 ^ 62) : ¬ lg_cmp (lN n) (-1) = 0 := by
  rw [lg_cmp_eq]
  intro z
  have := congrArg Int64.toInt z
  rw [pk_lT (by omega), show (-1 : Int64).toInt = -1 from rfl] at this
  omega
theorem op_notices (h : RX B M N) (x y : Int32) : OP 200 mX10_notices mX11_notices [.int x, .int y] B M N := by
  obtain ⟨W, S, T, Wk, Sk, Tk, h1, h2, h3, h4, h5, h6⟩ := id h
  obtain ⟨hsd, hS⟩ := RX_sd h1 h4
  have h8 := hS.1
  have l8 := lcn_le (N := N) S
  by_cases hx : ∃ k, k ≤ lcn N S ∧ x = nI k
  · obtain ⟨k, hk, rfl⟩ := hx
    have hu := unN_le (pas_10 (N := N) S) k
    have t8 := ten_8 (k := k) (by omega)
    have t1 := ten_1 k
    have hg : 0 < Nat.gcd (10 ^ k) (10 ^ k - unN (pas N S) k) := Nat.gcd_pos_of_pos_left _ (by omega)
    have hgl : Nat.gcd (10 ^ k) (10 ^ k - unN (pas N S) k) ≤ 10 ^ k := Nat.gcd_le_left _ (by omega)
    refine op_ro (v := some (.long (lN ((if y = 0 then 10 ^ k - unN (pas N S) k else 10 ^ k) / Nat.gcd (10 ^ k) (10 ^ k - unN (pas N S) k))))) h ?_ ?_
    · refine Cl_of rfl (Nat.le_of_ble_eq_true rfl) rfl (gX10_notices_0 (d := 199) ⟨fun z => absurd z (nI_pos (by omega)), fun _ => ⟨fun _ => ⟨_, hearN (d := 194) hsd, fun zr M1 q => ?_⟩, fun z => absurd (nI_le (b := 8) (by omega) (by omega)) z⟩⟩)
      rw [q.1]
      refine gX10_notices_18 (d := 199) ⟨_, kX10_ways (d := 194) hsd hS (by omega) (qfr_u q.2.1) q.2.2, fun zr M2 q2 => ?_⟩
      rw [q2.1, if_pos hk]
      refine gX10_notices_23 (d := 199) ⟨fun _ => ⟨_, kX10_waysInAll (d := 199) (by omega), fun zr M3 q3 => ?_⟩, fun z => absurd z (lN_nm (by omega))⟩
      rw [q3.1, q3.2]
      refine gX10_notices_40 (d := 199) ?_
      rw [lN_sub hu]
      refine ⟨_, Cl_of rfl (Nat.le_of_ble_eq_true rfl) rfl (gX10_sharedDivisor_0 (sdv 27 (10 ^ k) (10 ^ k - unN (pas N S) k) 0 (by omega) (by omega) (by omega) (by omega))), fun zr M4 q4 => ?_⟩
      rw [q4.1, q4.2]
      have el : lmax 1 (lN (Nat.gcd (10 ^ k) (10 ^ k - unN (pas N S) k))) = lN (Nat.gcd (10 ^ k) (10 ^ k - unN (pas N S) k)) := by
        unfold lmax
        split
        · rename_i z
          have := (pk_lLT (b := 1) (by omega) (by omega)).mp z
          omega
        · rfl
      have nz : ¬ lN (Nat.gcd (10 ^ k) (10 ^ k - unN (pas N S) k)) = 0 := fun z => by
        have := (pk_lEQ (b := 0) (by omega) (by omega)).mp z
        omega
      refine gX10_notices_55 (d := 199) ?_
      rw [el]
      refine ⟨fun z => ⟨nz, ?_, xq_q q2.2.1⟩, fun z => ⟨nz, ?_, xq_q q2.2.1⟩⟩
      · rw [if_pos z, pk_lDiv (by omega) hg (by omega)]
      · rw [if_neg z, pk_lDiv (by omega) hg (by omega)]
    · refine Cl_of rfl (Nat.le_of_ble_eq_true rfl) rfl (gX11_notices_0 (d := 199) ⟨_, kX11_layLines (d := 193) hsd hS, fun zr N1 q => ?_⟩)
      rw [q.1]
      have zi : iin (nI k) 0 (nI (lcn N S)) = true := iin_t.mpr ⟨nI_pos' (by omega), nI_le hk (by omega)⟩
      refine gX11_notices_4 (d := 199) ?_
      rw [q.2.2.1]
      refine ⟨fun _ => ⟨_, kX11_tens (d := 199) (by omega), fun zr N2 q2 => ?_⟩, fun z => bb z zi⟩
      rw [q2.1, q2.2]
      refine gX11_notices_24 (d := 199) ⟨_, kX11_unseen (d := 199) (k := k) (r := pas N S) (by omega) (fun j hj => q.2.2.2 j (by omega)) (pas_10 S), fun zr N3 q3 => ?_⟩
      rw [q3.1, q3.2]
      have gc : Nat.gcd (10 ^ k - unN (pas N S) k) (10 ^ k) = Nat.gcd (10 ^ k) (10 ^ k - unN (pas N S) k) := Nat.gcd_comm _ _
      have nz : ¬ lN (Nat.gcd (10 ^ k) (10 ^ k - unN (pas N S) k)) = 0 := fun z => by
        have := (pk_lEQ (b := 0) (by omega) (by omega)).mp z
        omega
      refine gX11_notices_31 (d := 199) ?_
      rw [lN_sub hu]
      refine ⟨fun z => ⟨_, Cl_of rfl (Nat.le_of_ble_eq_true rfl) rfl (gX11_common_0 (cmn 27 (10 ^ k - unN (pas N S) k) (10 ^ k) (by omega) (by omega) (by omega))), fun zr N4 q4 => ?_⟩, fun z => ⟨_, Cl_of rfl (Nat.le_of_ble_eq_true rfl) rfl (gX11_common_0 (cmn 27 (10 ^ k - unN (pas N S) k) (10 ^ k) (by omega) (by omega) (by omega))), fun zr N4 q4 => ?_⟩⟩
      · rw [q4.1, q4.2, gc]
        refine gX11_notices_50 ⟨nz, ?_, ml_pe q.2.1⟩
        rw [if_pos z, pk_lDiv (by omega) hg (by omega)]
      · rw [q4.1, q4.2, gc]
        refine gX11_notices_50 ⟨nz, ?_, ml_pe q.2.1⟩
        rw [if_neg z, pk_lDiv (by omega) hg (by omega)]
  · refine op_ro (v := some (.long (-1))) h ?_ ?_
    · refine Cl_of rfl (Nat.le_of_ble_eq_true rfl) rfl (gX10_notices_0 (d := 199) ⟨fun _ => ⟨rfl, xq.rf⟩, fun a => ⟨fun b => ⟨_, hearN (d := 194) hsd, fun zr M1 q => ?_⟩, fun _ => ⟨rfl, xq.rf⟩⟩⟩)
      obtain ⟨k, hk, rfl⟩ := nI_of a
      have k8 := (nI_leI (b := 8) hk (by omega)).mp b
      rw [q.1]
      refine gX10_notices_18 (d := 199) ⟨_, kX10_ways (d := 194) hsd hS k8 (qfr_u q.2.1) q.2.2, fun zr M2 q2 => ?_⟩
      rw [q2.1, if_neg (fun z => hx ⟨k, z, rfl⟩)]
      exact gX10_notices_23 (d := 199) ⟨fun z => absurd ((lg_cmp_eq _ _).mpr rfl) z, fun _ => ⟨rfl, xq_q q2.2.1⟩⟩
    · refine Cl_of rfl (Nat.le_of_ble_eq_true rfl) rfl (gX11_notices_0 (d := 199) ⟨_, kX11_layLines (d := 193) hsd hS, fun zr N1 q => ?_⟩)
      rw [q.1]
      refine gX11_notices_4 (d := 199) ?_
      rw [q.2.2.1]
      refine ⟨fun z => ?_, fun _ => ⟨rfl, ml_pe q.2.1⟩⟩
      exact absurd ((iin_lit _ (by omega)).mp z) hx
theorem op_lines (h : RX B M N) (x : Int32) : OP 200 mX10_lines mX11_lines [.int x] B M N := by
  obtain ⟨W, S, T, Wk, Sk, Tk, h1, h2, h3, h4, h5, h6⟩ := id h
  obtain ⟨hsd, hS⟩ := RX_sd h1 h4
  have h8 := hS.1
  have l8 := lcn_le (N := N) S
  cases hx : iin x 0 100 with
  | false =>
    refine op_ro (v := some (.int (-1))) h ?_ ?_
    · refine Cl_of rfl (Nat.le_of_ble_eq_true rfl) rfl (gX10_lines_0 (d := 199) ⟨fun _ => ⟨rfl, xq.rf⟩, fun a => ⟨fun b => ?_, fun _ => ⟨rfl, xq.rf⟩⟩⟩)
      exact absurd ⟨I_nlt.mp a, b⟩ (iin_f.mp hx)
    · exact Cl_of rfl (Nat.le_of_ble_eq_true rfl) rfl (gX11_lines_0 (d := 199) ⟨fun y => bb hx y, fun _ => ⟨rfl, pe.rf⟩⟩)
  | true =>
    let ok : Nat → Prop := fun k => ¬ lg_cmp ((lN (10 ^ k) - lN (unN (pas N S) k)) * 100) (x.toInt64 * lN (10 ^ k)) < 0
    -- the first k that is enough
    let F : Nat → Nat → Int32 := fun n => Nat.rec (motive := fun _ => Nat → Int32) (fun _ => -1) (fun _ r k => by
      exact (Classical.propDecidable (ok k)).casesOn (fun _ => r (k + 1)) (fun _ => nI k)) n
    have F0 : ∀ k, F 0 k = -1 := fun _ => rfl
    have Ft : ∀ n k, ok k → F (n + 1) k = nI k := fun n k hk => by
      show (Classical.propDecidable (ok k)).casesOn (motive := fun _ => Int32) (fun _ => F n (k + 1)) (fun _ => nI k) = _
      cases Classical.propDecidable (ok k) with
      | isTrue _ => rfl
      | isFalse q => exact absurd hk q
    have Ff : ∀ n k, ¬ ok k → F (n + 1) k = F n (k + 1) := fun n k hk => by
      show (Classical.propDecidable (ok k)).casesOn (motive := fun _ => Int32) (fun _ => F n (k + 1)) (fun _ => nI k) = _
      cases Classical.propDecidable (ok k) with
      | isTrue q => exact absurd q hk
      | isFalse _ => rfl
    refine op_ro (v := some (.int (F (lcn N S + 1) 0))) h ?_ ?_
    · refine Cl_of rfl (Nat.le_of_ble_eq_true rfl) rfl (gX10_lines_0 (d := 199) ⟨fun z => absurd z (I_nlt.mpr (iin_t.mp hx).1), fun _ => ⟨fun _ => ⟨_, hearN (d := 194) hsd, fun zr M1 q => ?_⟩, fun z => absurd (iin_t.mp hx).2 z⟩⟩)
      rw [q.1]
      refine gX10_lines_16 ?_
      have lp : ∀ n k, k + n = lcn N S + 1 → ∀ M2, qfr M M2 → hrd N M2 W (M.1 43 0) → Ev LX 200 mX10_lines 18 [some (.ref 0), some (.int x), some (.int (nI k)), none, none, none, none] [] M2 (fun r M2 => r = some (.int (F n k)) ∧ xq M M2) := by
        intro n
        induction n with
        | zero =>
          intro k hk M2 hq hh
          rw [F0]
          refine gX10_lines_18 (d := 199) ⟨fun _ => ⟨rfl, xq_q hq⟩, fun z => ⟨_, kX10_ways (d := 194) hsd hS (k := k) ?_ hq hh, fun zr M3 q3 => ?_⟩⟩
          · exact (nI_leI (b := 8) (by omega) (by omega)).mp (I_nlt.mp z)
          · rw [q3.1, if_neg (by omega)]
            exact gX10_lines_29 (d := 199) ⟨fun z => absurd ((lg_cmp_eq _ _).mpr rfl) z, fun _ => ⟨rfl, xq_q q3.2.1⟩⟩
        | succ n ih =>
          intro k hk M2 hq hh
          have hu := unN_le (pas_10 (N := N) S) k
          have t8 := ten_8 (k := k) (by omega)
          refine gX10_lines_18 (d := 199) ⟨fun z => absurd z (nI_nlt (a := 8) (by omega) (by omega)), fun z => ⟨_, kX10_ways (d := 194) hsd hS (k := k) (by omega) hq hh, fun zr M3 q3 => ?_⟩⟩
          rw [q3.1, if_pos (by omega)]
          refine gX10_lines_29 (d := 199) ⟨fun _ => ⟨_, kX10_waysInAll (d := 199) (by omega), fun zr M4 q4 => ?_⟩, fun z => absurd z (lN_nm (by omega))⟩
          rw [q4.1, q4.2]
          refine gX10_lines_44 ⟨fun z => ?_, fun z => ⟨?_, xq_q q3.2.1⟩⟩
          · rw [Ff n k (fun q => q z), nI_1]
            exact ih (k + 1) (by omega) M3 q3.2.1 q3.2.2
          · rw [Ft n k z]
      exact lp (lcn N S + 1) 0 (by omega) M1 (qfr_u q.2.1) q.2.2
    · refine Cl_of rfl (Nat.le_of_ble_eq_true rfl) rfl (gX11_lines_0 (d := 199) ⟨fun _ => ⟨_, kX11_layLines (d := 193) hsd hS, fun zr N1 q => ?_⟩, fun y => bb hx y⟩)
      rw [q.1]
      refine gX11_lines_16 ?_
      have hp := ml_pe q.2.1
      have lp : ∀ n k, k + n = lcn N S + 1 → Ev LM 200 mX11_lines 18 [some (.ref 0), some (.int x), some (.int (nI k))] [] N1 (fun r N2 => r = some (.int (F n k)) ∧ pe N N2) := by
        intro n
        induction n with
        | zero =>
          intro k hk
          rw [F0]
          refine gX11_lines_18 (d := 199) ⟨fun _ => ⟨rfl, hp⟩, fun z => absurd ?_ z⟩
          rw [q.2.2.1]; exact nI_lt (by omega) (by omega)
        | succ n ih =>
          intro k hk
          refine gX11_lines_18 (d := 199) ⟨fun z => ?_, fun _ => ⟨_, kX11_tens (d := 199) (by omega), fun zr N2 q2 => ?_⟩⟩
          · rw [q.2.2.1] at z; exact absurd z (nI_nlt (by omega) (by omega))
          · rw [q2.1, q2.2]
            refine gX11_lines_33 (d := 199) ⟨_, kX11_unseen (d := 199) (k := k) (r := pas N S) (by omega) (fun j hj => q.2.2.2 j (by omega)) (pas_10 S), fun zr N3 q3 => ?_⟩
            rw [q3.1, q3.2]
            refine gX11_lines_38 (d := 199) ⟨_, kX11_tens (d := 199) (by omega), fun zr N4 q4 => ?_⟩
            rw [q4.1, q4.2]
            have em : (100 : Int64) * (lN (10 ^ k) - lN (unN (pas N S) k)) = (lN (10 ^ k) - lN (unN (pas N S) k)) * 100 := Int64.mul_comm _ _
            refine gX11_lines_46 ?_
            rw [em]
            refine ⟨fun z => ?_, fun z => ⟨?_, hp⟩⟩
            · rw [Ff n k (fun q => q z), nI_1]
              exact ih (k + 1) (by omega)
            · rw [Ft n k z]
      exact lp (lcn N S + 1) 0 (by omega)
end
