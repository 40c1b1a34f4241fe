/-! CALLS: line -/
section
variable {d B : Nat} {M N : ev_Mem} {W T S s f : Nat} {lo : Int32}
theorem bt_nI {n i : Nat} (hi : i < 32) : bt (nI n) i = n.testBit i := by
  show (BitVec.ofNat 32 n).getLsbD i = _
  rw [BitVec.getLsbD_ofNat, decide_eq_true hi, Bool.true_and]
theorem hs_nI {n i : Nat} (hi : i < 32) : hs (nI n) (nI i) = n.testBit i := by rw [hs_bt hi, bt_nI hi]
def smN (r : Nat → Nat) (t : Nat) : Nat → Nat
  | 0 => 0
  | i + 1 => if t.testBit i = true then smN r t i + r i else smN r t i
theorem smN_up {r : Nat → Nat} {t b : Nat} (h : ∀ i, r i ≤ b) : ∀ n, smN r t n ≤ b * n
  | 0 => Nat.le_refl _
  | n + 1 => by
    have := smN_up (t := t) h n
    have := h n
    rw [smN, Nat.mul_add, Nat.mul_one]
    split <;> omega
theorem smN_ge {r : Nat → Nat} {t i : Nat} (ht : t.testBit i = true) : ∀ n, i < n → r i ≤ smN r t n
  | 0, h => absurd h (by omega)
  | n + 1, h => by
    rw [smN]
    by_cases e : i = n
    · subst e; rw [if_pos ht]; omega
    · have := smN_ge (r := r) ht n (by omega)
      split <;> omega
theorem smN_0 {r : Nat → Nat} : ∀ n, smN r 0 n = 0
  | 0 => rfl
  | n + 1 => by rw [smN, Nat.zero_testBit, if_neg (by decide), smN_0 n]
theorem kX10_sumOverp {t : Nat} {r : Nat → Nat} (hr : ∀ i, i < 8 → t.testBit i = true → M.1 120 i = nI (r i)) : Cl LX (d + 1) mX10_sumOver [.int (nI t), .ref 120] M (ev_R (some (.int (nI (smN r t 8)))) M) := by
  refine Cl_of rfl (Nat.le_of_ble_eq_true rfl) rfl (gX10_sumOverp_0 ?_)
  have lp : ∀ i, i ≤ 8 → Ev LX (d + 1) mX10_sumOver 4 [some (.int (nI t)), some (.ref 120), some (.int (nI (smN r t i))), some (.int (nI i))] [] M (ev_R (some (.int (nI (smN r t 8)))) M) := by
    refine dn ?_ (fun i hi ih => ?_)
    · exact gX10_sumOverp_4 ⟨fun _ => ⟨rfl, rfl⟩, fun z => absurd (nI_le (a := 8) (b := 8) (Nat.le_refl _) (by omega)) z⟩
    · rw [smN] at ih
      refine gX10_sumOverp_4 ⟨fun z => absurd z (nI_ge (b := 8) hi (by omega)), fun _ => ?_⟩
      rw [hs_nI (by omega), nI_clamp (by omega)]
      refine ⟨fun z => ?_, fun z => ⟨vp_in_nI hi (by omega), fun v1 e1 => ?_⟩⟩
      · rw [if_neg (by rw [z]; decide)] at ih; rw [nI_1]; exact ih
      · rw [if_pos z] at ih
        rw [hr i hi z, nI_add] at e1
        rw [nI_1, e1]; exact ih
  exact lp 0 (by omega)
theorem kX10_sumOvers {t : Nat} {r : Nat → Nat} (hr : ∀ i, i < 8 → t.testBit i = true → M.1 121 i = nI (r i)) : Cl LX (d + 1) mX10_sumOver [.int (nI t), .ref 121] M (ev_R (some (.int (nI (smN r t 8)))) M) := by
  refine Cl_of rfl (Nat.le_of_ble_eq_true rfl) rfl (gX10_sumOvers_0 ?_)
  have lp : ∀ i, i ≤ 8 → Ev LX (d + 1) mX10_sumOver 4 [some (.int (nI t)), some (.ref 121), some (.int (nI (smN r t i))), some (.int (nI i))] [] M (ev_R (some (.int (nI (smN r t 8)))) M) := by
    refine dn ?_ (fun i hi ih => ?_)
    · exact gX10_sumOvers_4 ⟨fun _ => ⟨rfl, rfl⟩, fun z => absurd (nI_le (a := 8) (b := 8) (Nat.le_refl _) (by omega)) z⟩
    · rw [smN] at ih
      refine gX10_sumOvers_4 ⟨fun z => absurd z (nI_ge (b := 8) hi (by omega)), fun _ => ?_⟩
      rw [hs_nI (by omega), nI_clamp (by omega)]
      refine ⟨fun z => ?_, fun z => ⟨vp_in_nI hi (by omega), fun v1 e1 => ?_⟩⟩
      · rw [if_neg (by rw [z]; decide)] at ih; rw [nI_1]; exact ih
      · rw [if_pos z] at ih
        rw [hr i hi z, nI_add] at e1
        rw [nI_1, e1]; exact ih
  exact lp 0 (by omega)
theorem kX11_sumOfp {t : Nat} {r : Nat → Nat} (hr : ∀ i, i < 8 → t.testBit i = true → N.1 18 i = nI (r i)) : Cl LM (d + 1) mX11_sumOf [.ref 18, .int (nI t)] N (ev_R (some (.int (nI (smN r t 8)))) N) := by
  refine Cl_of rfl (Nat.le_of_ble_eq_true rfl) rfl (gX11_sumOfp_0 ?_)
  have z0 : ∀ y : Nat, nI y + 0 = nI y := fun y => by rw [show (0 : Int32) = nI 0 from rfl, nI_add, Nat.add_zero]
  have lp : ∀ i, i ≤ 8 → Ev LM (d + 1) mX11_sumOf 4 [some (.ref 18), some (.int (nI t)), some (.int (nI (smN r t i))), some (.int (nI i))] [] N (ev_R (some (.int (nI (smN r t 8)))) N) := by
    refine dn ?_ (fun i hi ih => ?_)
    · exact gX11_sumOfp_4 ⟨fun _ => ⟨rfl, rfl⟩, fun z => absurd (nI_le (a := 8) (b := 8) (Nat.le_refl _) (by omega)) z⟩
    · rw [smN] at ih
      refine gX11_sumOfp_4 ⟨fun z => absurd z (nI_ge (b := 8) hi (by omega)), fun _ => ?_⟩
      rw [hs_nI (by omega), nI_clamp (by omega)]
      refine ⟨fun z => ?_, fun z => ⟨vp_in_nI hi (by omega), fun v1 e1 => ?_⟩⟩
      · rw [if_neg (by rw [z]; decide)] at ih; rw [nI_1, z0]; exact ih
      · rw [if_pos z] at ih
        rw [hr i hi z, nI_add] at e1
        rw [nI_1, e1]; exact ih
  exact lp 0 (by omega)
theorem kX11_sumOfs {t : Nat} {r : Nat → Nat} (hr : ∀ i, i < 8 → t.testBit i = true → N.1 19 i = nI (r i)) : Cl LM (d + 1) mX11_sumOf [.ref 19, .int (nI t)] N (ev_R (some (.int (nI (smN r t 8)))) N) := by
  refine Cl_of rfl (Nat.le_of_ble_eq_true rfl) rfl (gX11_sumOfs_0 ?_)
  have z0 : ∀ y : Nat, nI y + 0 = nI y := fun y => by rw [show (0 : Int32) = nI 0 from rfl, nI_add, Nat.add_zero]
  have lp : ∀ i, i ≤ 8 → Ev LM (d + 1) mX11_sumOf 4 [some (.ref 19), some (.int (nI t)), some (.int (nI (smN r t i))), some (.int (nI i))] [] N (ev_R (some (.int (nI (smN r t 8)))) N) := by
    refine dn ?_ (fun i hi ih => ?_)
    · exact gX11_sumOfs_4 ⟨fun _ => ⟨rfl, rfl⟩, fun z => absurd (nI_le (a := 8) (b := 8) (Nat.le_refl _) (by omega)) z⟩
    · rw [smN] at ih
      refine gX11_sumOfs_4 ⟨fun z => absurd z (nI_ge (b := 8) hi (by omega)), fun _ => ?_⟩
      rw [hs_nI (by omega), nI_clamp (by omega)]
      refine ⟨fun z => ?_, fun z => ⟨vp_in_nI hi (by omega), fun v1 e1 => ?_⟩⟩
      · rw [if_neg (by rw [z]; decide)] at ih; rw [nI_1, z0]; exact ih
      · rw [if_pos z] at ih
        rw [hr i hi z, nI_add] at e1
        rw [nI_1, e1]; exact ih
  exact lp 0 (by omega)
def pcv (N : ev_Mem) (s f : Nat) : Int32 := smI (fun p => if aw N (hN N s f p) 0 = 2 then 3 else 2) (lnN N s)
theorem pcv_up (hS : senR M N S) (hs : s < S) : upto (pcv N s f) 15 := by
  obtain ⟨n1, n5, -⟩ := sen_n hS hs
  refine upto_mono (smI_up (b := 3) (fun p hp => ?_)) (by omega)
  split
  · exact ⟨3, by omega, rfl⟩
  · exact ⟨2, by omega, rfl⟩
def prc (N : ev_Mem) (s : Nat) : Nat := ifb N s FARn (fun f => (pcv N s f).toNatClampNeg)
def svg (N : ev_Mem) (s : Nat) : Nat := ifb N s 0 (fun f => (scl N s f).toNatClampNeg)
theorem prc_s (hS : senR M N S) (hs : s < S) (hb : bN N s = some f) : pcv N s f = nI (prc N s) ∧ prc N s ≤ 15 := by
  obtain ⟨n, hn, e⟩ := pcv_up (f := f) hS hs
  unfold prc
  rw [ifb_s hb, e, nI_clamp (by omega)]
  exact ⟨rfl, hn⟩
theorem svg_s (h : sdR M N W T lo) (hS : senR M N S) (hs : s < S) (hb : bN N s = some f) : scl N s f = nI (svg N s) ∧ svg N s ≤ 405 := by
  obtain ⟨n, hn, e⟩ := scl_up h hS hs hb
  unfold svg
  rw [ifb_s hb, e, nI_clamp (by omega)]
  exact ⟨rfl, hn⟩
def cnN (N : ev_Mem) : Nat → Nat
  | 0 => 0
  | n + 1 => ifb N n (cnN N n) (fun _ => cnN N n ||| 2 ^ n)
theorem cnN_lt : ∀ n, cnN N n < 2 ^ n
  | 0 => by show 0 < 1; omega
  | n + 1 => by
    have := cnN_lt n
    have h2 : (2 : Nat) ^ n < 2 ^ (n + 1) := Nat.pow_lt_pow_right (by omega) (by omega)
    rw [cnN]
    unfold ifb
    split
    · omega
    · exact Nat.or_lt_two_pow (by omega) h2
theorem cnN_bit {i : Nat} : ∀ n, (cnN N n).testBit i = true ↔ i < n ∧ ∃ f, bN N i = some f
  | 0 => by rw [cnN, Nat.zero_testBit]; exact ⟨fun h => Bool.noConfusion h, fun h => absurd h.1 (by omega)⟩
  | n + 1 => by
    have ih := cnN_bit (i := i) n
    rw [cnN]
    cases e : bN N n with
    | none =>
      rw [ifb_n e, ih]
      refine ⟨fun ⟨h1, h2⟩ => ⟨by omega, h2⟩, fun ⟨h1, h2⟩ => ⟨?_, h2⟩⟩
      by_cases q : i = n
      · rw [q, e] at h2; obtain ⟨_, h2⟩ := h2; cases h2
      · omega
    | some f =>
      rw [ifb_s e, Nat.testBit_or, Bool.or_eq_true, ih, Nat.testBit_two_pow, decide_eq_true_eq]
      constructor
      · rintro (⟨h1, h2⟩ | rfl)
        · exact ⟨by omega, h2⟩
        · exact ⟨by omega, f, e⟩
      · rintro ⟨h1, h2⟩
        by_cases q : n = i
        · exact Or.inr q
        · exact Or.inl ⟨by omega, h2⟩
theorem sub_z {t c : Nat} (ht : t < 256) : nI t &&& (nI c ^^^ (-1)) = 0 ↔ ∀ i, t.testBit i = true → c.testBit i = true := by
  rw [and_z]
  have big : ∀ i, t.testBit i = true → i < 32 := fun i h => by
    rcases Nat.lt_or_ge i 32 with q | q
    · exact q
    · have : t < 2 ^ i := Nat.lt_of_lt_of_le ht (Nat.pow_le_pow_right (n := 2) (i := 8) (j := i) (by omega) (by omega))
      rw [Nat.testBit_lt_two_pow this] at h; cases h
  constructor
  · intro h i hi
    have h32 := big i hi
    cases q : c.testBit i with
    | true => rfl
    | false => exact absurd ⟨by rw [bt_nI h32]; exact hi, by rw [b_xor, bt_nI h32, q, b_m1 i h32]; rfl⟩ (h i h32)
  · rintro h i hi ⟨h1, h2⟩
    rw [bt_nI hi] at h1
    rw [b_xor, bt_nI hi, h i h1, b_m1 i hi] at h2
    cases h2
theorem sub_le {t c : Nat} (h : ∀ i, t.testBit i = true → c.testBit i = true) : t ≤ c := by
  have : t &&& c = t := Nat.eq_of_testBit_eq fun i => by
    rw [Nat.testBit_and]
    cases q : t.testBit i with
    | false => rfl
    | true => rw [h i q]; rfl
  rw [← this]; exact Nat.and_le_right
def ptt (N : ev_Mem) (t : Nat) : Nat := smN (prc N) t 8
def vtt (N : ev_Mem) (t : Nat) : Nat := smN (svg N) t 8
def bsL (N : ev_Mem) (q : Nat) : Nat → Nat
  | 0 => 0
  | n + 1 => if ptt N (n + 1) ≤ q ∧ (vtt N (bsL N q n) < vtt N (n + 1) ∨ (vtt N (n + 1) = vtt N (bsL N q n) ∧ ptt N (n + 1) < ptt N (bsL N q n))) then n + 1 else bsL N q n
theorem bsL_b {q : Nat} : ∀ n, bsL N q n ≤ n ∧ ptt N (bsL N q n) ≤ q
  | 0 => ⟨Nat.le_refl _, by show smN (prc N) 0 8 ≤ q; rw [smN_0]; omega⟩
  | n + 1 => by
    have := bsL_b (q := q) n
    rw [bsL]
    split
    · rename_i z; exact ⟨Nat.le_refl _, z.1⟩
    · exact ⟨by omega, this.2⟩
/-- a set that can be paid for has sentences that can be said alone -/
theorem ptt_sub {t q : Nat} (hS8 : S ≤ 8) (ht : t < 2 ^ S) (hp : ptt N t ≤ q) (hq : q ≤ 999) : ∀ i, t.testBit i = true → (cnN N S).testBit i = true := by
  intro i hi
  have iS : i < S := by
    rcases Nat.lt_or_ge i S with z | z
    · exact z
    · rw [Nat.testBit_lt_two_pow (Nat.lt_of_lt_of_le ht (Nat.pow_le_pow_right (by omega) z))] at hi; cases hi
  refine (cnN_bit S).mpr ⟨iS, ?_⟩
  cases e : bN N i with
  | some f => exact ⟨f, rfl⟩
  | none =>
    have h1 := smN_ge (r := prc N) hi 8 (by omega)
    have h2 : prc N i = FARn := by unfold prc; rw [ifb_n e]
    have hF : FARn = 1000000 := rfl
    unfold ptt at hp
    omega
theorem bsL_st {q : Nat} (hS8 : S ≤ 8) (hq : q ≤ 999) : ∀ n, cnN N S ≤ n → n < 2 ^ S → bsL N q n = bsL N q (cnN N S)
  | 0, h, _ => by rw [show cnN N S = 0 by omega]
  | n + 1, h, hn => by
    by_cases e : cnN N S = n + 1
    · rw [e]
    · rw [← bsL_st hS8 hq n (by omega) (by omega), bsL, if_neg]
      rintro ⟨z, -⟩
      have := sub_le (ptt_sub hS8 hn z hq)
      omega
theorem op_line (h : RX B M N) (x y : Int32) : OP 200 mX10_line mX11_line [.int x, .int y] B M N := by
  obtain ⟨W, S, T, Wk, Sk, Tk, h1, h2, h3, h4, h5, h6⟩ := id h
  obtain ⟨hsd, hS⟩ := RX_sd h1 h4
  have h8 := hS.1
  have hF : FARn = 1000000 := rfl
  have p8 : (2 : Nat) ^ S ≤ 256 := Nat.pow_le_pow_right (n := 2) (i := S) (j := 8) (by omega) h8
  have p1 : 1 ≤ (2 : Nat) ^ S := Nat.one_le_two_pow
  have prb : ∀ i, i < S → prc N i ≤ FARn := fun i hi => by
    cases e : bN N i with
    | none => unfold prc; rw [ifb_n e]; exact Nat.le_refl _
    | some f => have := (prc_s hS hi e).2; omega
  cases hx : iin x 0 999 with
  | false =>
    refine op_ro (v := some (.int (-1))) h ?_ ?_
    · refine Cl_of rfl (Nat.le_of_ble_eq_true rfl) rfl (gX10_line_0 (d := 199) ⟨fun _ => ⟨rfl, xq.rf⟩, fun a => ⟨fun b => ?_, fun _ => ⟨rfl, xq.rf⟩⟩⟩)
      exact absurd ⟨I_nlt.mp a, b⟩ (iin_f.mp hx)
    · exact Cl_of rfl (Nat.le_of_ble_eq_true rfl) rfl (gX11_line_0 (d := 199) ⟨fun z => bb hx z, fun _ => ⟨rfl, pe.rf⟩⟩)
  | true =>
    obtain ⟨q, hq, rfl⟩ := (iin_lit 999 (by omega)).mp hx
    have tb : ∀ t i, t < 2 ^ S → t.testBit i = true → i < S := fun t i ht hi => by
      rcases Nat.lt_or_ge i S with z | z
      · exact z
      · rw [Nat.testBit_lt_two_pow (Nat.lt_of_lt_of_le ht (Nat.pow_le_pow_right (by omega) z))] at hi; cases hi
    have pb : ∀ t, t < 2 ^ S → ptt N t ≤ 8000000 := fun t ht => by
      have : ∀ n, smN (prc N) t n ≤ 1000000 * n := by
        intro n
        induction n with
        | zero => exact Nat.le_refl _
        | succ n ih =>
          rw [smN, Nat.mul_add, Nat.mul_one]
          split
          · rename_i z
            have := prb n (tb t n ht z)
            omega
          · omega
      exact this 8
    have vb : ∀ t, t < 2 ^ S → vtt N t ≤ 3240 := fun t ht => by
      have : ∀ n, smN (svg N) t n ≤ 405 * n := by
        intro n
        induction n with
        | zero => exact Nat.le_refl _
        | succ n ih =>
          rw [smN, Nat.mul_add, Nat.mul_one]
          split
          · rename_i z
            have : svg N n ≤ 405 := by
              cases e : bN N n with
              | none => unfold svg; rw [ifb_n e]; omega
              | some f => exact (svg_s hsd hS (tb t n ht z) e).2
            omega
          · omega
      exact this 8
    refine op_ro (v := some (.int (if y = 0 then nI (bsL N q (2 ^ S - 1)) else nI (vtt N (bsL N q (2 ^ S - 1)))))) h ?_ ?_
    · refine Cl_of rfl (Nat.le_of_ble_eq_true rfl) rfl (gX10_line_0 (d := 199) ⟨fun z => absurd z (nI_pos (by omega)), fun _ => ⟨fun _ => ?_, fun z => absurd (nI_le (b := 999) hq (by omega)) z⟩⟩)
      -- the prices
      have hpr : Cl LX 199 mX10_priceSentences [.ref 0] M (fun r M2 => r = none ∧ xq M M2 ∧ ∀ i, i < S → M2.1 120 i = nI (prc N i) ∧ M2.1 121 i = nI (svg N i)) := by
        refine Cl_of rfl (Nat.le_of_ble_eq_true rfl) rfl (gX10_priceSentences_0 (d := 198) ⟨_, hearN (d := 193) hsd, fun zr M1 q1 => ?_⟩)
        rw [q1.1]
        refine gX10_priceSentences_4 ?_
        have lp : ∀ i, i ≤ S → ∀ M2, (∀ k, k < 82 → M2.1 k = M.1 k) → xq M M2 → hrd N M2 W (M.1 43 0) → (∀ j, j < i → M2.1 120 j = nI (prc N j) ∧ M2.1 121 j = nI (svg N j)) → Ev LX 199 mX10_priceSentences 6 [some (.ref 0), some (.int (nI i)), none] [] M2 (fun r M2 => r = none ∧ xq M M2 ∧ ∀ i, i < S → M2.1 120 i = nI (prc N i) ∧ M2.1 121 i = nI (svg N i)) := by
          refine dn ?_ (fun i hi ih => ?_)
          · intro M2 hc hq hh hr
            refine gX10_priceSentences_6 (d := 198) ⟨fun _ => ⟨rfl, hq, hr⟩, fun z => absurd ?_ z⟩
            rw [hc 3 (by omega), hS.2.1]; exact nI_le (Nat.le_refl _) (by omega)
          · intro M2 hc hq hh hr
            refine gX10_priceSentences_6 (d := 198) ⟨fun z => ?_, fun _ => ⟨_, speakH (d := 194) hsd hS hi hc hh, fun zr M3 q3 => ?_⟩⟩
            · rw [hc 3 (by omega), hS.2.1] at z; exact absurd z (nI_ge hi (by omega))
            · have fin : ∀ a b : Int32, a = nI (prc N i) → b = nI (svg N i) → ∀ M4, M4 = ev_wr M3 120 i a → ∀ M5, M5 = ev_wr M4 121 i b → Ev LX 199 mX10_priceSentences 6 [some (.ref 0), some (.int (nI i + 1)), none] [] M5 (fun r M2 => r = none ∧ xq M M2 ∧ ∀ i, i < S → M2.1 120 i = nI (prc N i) ∧ M2.1 121 i = nI (svg N i)) := by
                intro a b ha hb M4 e4 M5 e5
                have c5 : ∀ k, k ≠ 120 → k ≠ 121 → M5.1 k = M3.1 k := fun k k1 k2 => by rw [e5, wr_cell k2, e4, wr_cell k1]
                rw [nI_1]
                refine ih M5 (fun k hk => by rw [c5 k (by omega) (by omega), q3.1.1 k (by omega) (by omega)]; exact hc k hk) (hq.tr ((xq_q (qfr_o q3.1)).tr ⟨fun k hk => c5 k (by omega) (by omega), fun j _ => by rw [c5 81 (by omega) (by omega)], fun k k1 k2 => c5 k (by omega) (by omega)⟩)) ?_ (fun j hj => ?_)
                · obtain ⟨k1, k2, k3⟩ := q3.2.1
                  refine ⟨by rw [c5 86 (by omega) (by omega)]; exact k1, ?_, ?_⟩
                  · unfold heldI; rw [c5 89 (by omega) (by omega), c5 90 (by omega) (by omega), c5 86 (by omega) (by omega)]; exact k2
                  · unfold supO; rw [c5 87 (by omega) (by omega), c5 88 (by omega) (by omega)]; exact k3
                · have e120 : M5.1 120 = upd (M3.1 120) i a := by rw [e5, wr_cell (by omega), e4, wr_row]
                  have e121 : M5.1 121 = upd (M3.1 121) i b := by rw [e5, wr_row, e4, wr_cell (by omega)]
                  rw [e120, e121]
                  by_cases ej : j = i
                  · rw [ej, upd_eq, upd_eq]; exact ⟨ha, hb⟩
                  · rw [upd_ne ej, upd_ne ej, q3.1.1 120 (by omega) (by omega), q3.1.1 121 (by omega) (by omega)]; exact hr j (by omega)
              rcases q3.2.2 with ⟨hb, e⟩ | ⟨f, hb, e, -, -, -, p15, -, p17⟩
              · rw [e]
                refine gX10_priceSentences_25 ⟨fun _ => ⟨vp_in_nI (by omega) (by omega), fun M4 e4 => ⟨fun _ => ⟨vp_in_nI (by omega) (by omega), fun M5 e5 => ?_⟩, fun z => absurd rfl z⟩⟩, fun z => absurd rfl z⟩
                rw [nI_clamp (by omega)] at e4 e5
                refine fin 1000000 0 ?_ ?_ M4 e4 M5 e5
                · unfold prc; rw [ifb_n hb]; rfl
                · unfold svg; rw [ifb_n hb]; rfl
              · rw [e]
                have p15 : M3.1 86 15 = scl N i f := p15
                have p17 : M3.1 86 17 = pcv N i f := p17
                refine gX10_priceSentences_25 ⟨fun z => absurd z (by decide), fun _ => ⟨vp_in_nI (by omega) (by omega), fun M4 e4 => ⟨fun z => absurd z (by decide), fun _ => ⟨vp_in_nI (by omega) (by omega), fun M5 e5 => ?_⟩⟩⟩⟩
                rw [nI_clamp (by omega), p17] at e4
                rw [nI_clamp (by omega), e4, wr_cell (by omega), p15] at e5
                exact fin _ _ (prc_s hS hi hb).1 (svg_s hsd hS hi hb).1 M4 e4 M5 (by rw [e4]; exact e5)
        exact lp 0 (by omega) M1 (fun k hk => q1.2.1.1 k (by omega)) (xq_q (qfr_u q1.2.1)) q1.2.2 (fun j hj => absurd hj (by omega))
      refine ⟨_, hpr, fun zr M2 q2 => ?_⟩
      rw [q2.1]
      refine gX10_line_17 ?_
      have e38 : (1 : Int32) <<< (M2.1 3 8 &&& 31) = nI (2 ^ S) := by rw [q2.2.1.1 3 (by omega), hS.2.1]; exact sh1 S (by omega)
      have lp : ∀ n, n ≤ 2 ^ S - 1 → Ev LX 200 mX10_line 28 [some (.ref 0), some (.int (nI q)), some (.int y), some (.int (nI (bsL N q n))), some (.int (nI (ptt N (bsL N q n)))), some (.int (nI (vtt N (bsL N q n)))), some (.int (nI (n + 1))), none, none, none] [] M2 (fun r M2 => r = some (.int (if y = 0 then nI (bsL N q (2 ^ S - 1)) else nI (vtt N (bsL N q (2 ^ S - 1))))) ∧ xq M M2) := by
        refine dn ?_ (fun n hn ih => ?_)
        · refine gX10_line_28 (d := 199) ?_
          rw [e38]
          exact ⟨fun _ => ⟨fun z => ⟨by rw [if_pos z], q2.2.1⟩, fun z => ⟨by rw [if_neg z], q2.2.1⟩⟩, fun z => absurd (nI_le (by omega) (by omega)) z⟩
        · have bb1 := bsL_b (N := N) (q := q) n
          have p1 := pb (n + 1) (by omega)
          have p2 := pb (bsL N q n) (by omega)
          have v1 := vb (n + 1) (by omega)
          have v2 := vb (bsL N q n) (by omega)
          refine gX10_line_28 (d := 199) ?_
          rw [e38]
          refine ⟨fun z => absurd z (nI_ge (by omega) (by omega)), fun _ => ⟨_, kX10_sumOverp (d := 198) (t := n + 1) (r := prc N) (fun i hi ht => (q2.2.2 i (tb (n + 1) i (by omega) ht)).1), fun zr M3 q3 => ?_⟩⟩
          rw [q3.1, q3.2]
          refine gX10_line_51 (d := 199) ⟨_, kX10_sumOvers (d := 198) (t := n + 1) (r := svg N) (fun i hi ht => (q2.2.2 i (tb (n + 1) i (by omega) ht)).2), fun zr M4 q4 => ?_⟩
          rw [q4.1, q4.2]
          rw [bsL] at ih
          have no : ¬ (ptt N (n + 1) ≤ q ∧ (vtt N (bsL N q n) < vtt N (n + 1) ∨ (vtt N (n + 1) = vtt N (bsL N q n) ∧ ptt N (n + 1) < ptt N (bsL N q n)))) → Ev LX 200 mX10_line 28 [some (.ref 0), some (.int (nI q)), some (.int y), some (.int (nI (bsL N q n))), some (.int (nI (ptt N (bsL N q n)))), some (.int (nI (vtt N (bsL N q n)))), some (.int (nI (n + 1) + 1)), none, none, none] [] M2 (fun r M2 => r = some (.int (if y = 0 then nI (bsL N q (2 ^ S - 1)) else nI (vtt N (bsL N q (2 ^ S - 1))))) ∧ xq M M2) := fun z => by
            rw [if_neg z] at ih; rw [nI_1]; exact ih
          have ye : (ptt N (n + 1) ≤ q ∧ (vtt N (bsL N q n) < vtt N (n + 1) ∨ (vtt N (n + 1) = vtt N (bsL N q n) ∧ ptt N (n + 1) < ptt N (bsL N q n)))) → Ev LX 200 mX10_line 28 [some (.ref 0), some (.int (nI q)), some (.int y), some (.int (nI (n + 1))), some (.int (nI (ptt N (n + 1)))), some (.int (nI (vtt N (n + 1)))), some (.int (nI (n + 1) + 1)), none, none, none] [] M2 (fun r M2 => r = some (.int (if y = 0 then nI (bsL N q (2 ^ S - 1)) else nI (vtt N (bsL N q (2 ^ S - 1))))) ∧ xq M M2) := fun z => by
            rw [if_pos z] at ih; rw [nI_1]; exact ih
          have l1 : ∀ {a b : Nat}, a < 2 ^ 31 → b < 2 ^ 31 → (nI a < nI b → a < b) ∧ (¬ nI a < nI b → b ≤ a) := fun ha hb => ⟨(nI_ltI ha hb).mp, fun z => by have := mt (nI_ltI ha hb).mpr z; omega⟩
          have l2 : ∀ {a b : Nat}, a < 2 ^ 31 → b < 2 ^ 31 → (nI a ≤ nI b → a ≤ b) ∧ (¬ nI a ≤ nI b → b < a) := fun ha hb => ⟨(nI_leI ha hb).mp, fun z => by have := mt (nI_leI ha hb).mpr z; omega⟩
          have l3 : ∀ {a b : Nat}, a < 2 ^ 31 → b < 2 ^ 31 → (nI a = nI b → a = b) ∧ (¬ nI a = nI b → a ≠ b) := fun ha hb => ⟨(nI_eq ha hb).mp, fun z => by have := mt (nI_eq ha hb).mpr z; omega⟩
          refine gX10_line_62 ⟨fun a => ⟨fun b => ?_, fun b => ?_⟩, fun a => ⟨fun b => ⟨fun c => ?_, fun c => ?_⟩, fun b => ⟨fun c => ⟨fun e => ?_, fun e => ?_⟩, fun c => ⟨fun e => ?_, fun e => ?_⟩⟩⟩⟩
          · have b' : q < ptt N (n + 1) := (l1 (by omega) (by omega)).1 b
            exact no (by omega)
          · have a' : vtt N (bsL N q n) < vtt N (n + 1) := (l1 (by omega) (by omega)).1 a
            have b' : ptt N (n + 1) ≤ q := (l1 (by omega) (by omega)).2 b
            exact ye ⟨b', Or.inl a'⟩
          · have a' : vtt N (n + 1) ≤ vtt N (bsL N q n) := (l1 (by omega) (by omega)).2 a
            have b' : vtt N (n + 1) ≠ vtt N (bsL N q n) := (l3 (by omega) (by omega)).2 b
            exact no (by omega)
          · have a' : vtt N (n + 1) ≤ vtt N (bsL N q n) := (l1 (by omega) (by omega)).2 a
            have b' : vtt N (n + 1) ≠ vtt N (bsL N q n) := (l3 (by omega) (by omega)).2 b
            exact no (by omega)
          · have a' : vtt N (n + 1) ≤ vtt N (bsL N q n) := (l1 (by omega) (by omega)).2 a
            have c' : ptt N (bsL N q n) ≤ ptt N (n + 1) := (l2 (by omega) (by omega)).1 c
            exact no (by omega)
          · have a' : vtt N (n + 1) ≤ vtt N (bsL N q n) := (l1 (by omega) (by omega)).2 a
            have c' : ptt N (bsL N q n) ≤ ptt N (n + 1) := (l2 (by omega) (by omega)).1 c
            exact no (by omega)
          · have e' : q < ptt N (n + 1) := (l1 (by omega) (by omega)).1 e
            exact no (by omega)
          · have b' : vtt N (n + 1) = vtt N (bsL N q n) := (l3 (by omega) (by omega)).1 b
            have c' : ptt N (n + 1) < ptt N (bsL N q n) := (l2 (by omega) (by omega)).2 c
            have e' : ptt N (n + 1) ≤ q := (l1 (by omega) (by omega)).2 e
            exact ye ⟨e', Or.inr ⟨b', c'⟩⟩
      have := lp 0 (by omega)
      rw [show ptt N (bsL N q 0) = 0 from smN_0 8, show vtt N (bsL N q 0) = 0 from smN_0 8] at this
      exact this
    · refine Cl_of rfl (Nat.le_of_ble_eq_true rfl) rfl (gX11_line_0 (d := 199) ⟨fun _ => ⟨_, layN (d := 194) hsd, fun zr N1 q1 => ?_⟩, fun z => bb z hx⟩)
      rw [q1.1]
      refine gX11_line_17 ?_
      rw [bsL_st h8 hq (2 ^ S - 1) (by have := cnN_lt (N := N) S; omega) (by omega)]
      have cl := cnN_lt (N := N) S
      -- the choice
      have l2 : ∀ n k, n + k = cnN N S → ∀ N2, me N N2 → (∀ i, i < S → ∀ f, bN N i = some f → N2.1 18 i = nI (prc N i) ∧ N2.1 19 i = nI (svg N i)) → Ev LM 200 mX11_line 91 [some (.ref 0), some (.int (nI q)), some (.int y), some (.int (nI (cnN N S))), some (.int (nI (bsL N q n))), some (.int (nI (n + 1))), none] [] N2 (fun r N2 => r = some (.int (if y = 0 then nI (bsL N q (cnN N S)) else nI (vtt N (bsL N q (cnN N S))))) ∧ pe N N2) := by
        intro n k
        have ok : ∀ t, t < 2 ^ S → (∀ i, t.testBit i = true → (cnN N S).testBit i = true) → ∀ N2 : ev_Mem, (∀ i, i < S → ∀ f, bN N i = some f → N2.1 18 i = nI (prc N i) ∧ N2.1 19 i = nI (svg N i)) → (∀ i, i < 8 → t.testBit i = true → N2.1 18 i = nI (prc N i)) ∧ (∀ i, i < 8 → t.testBit i = true → N2.1 19 i = nI (svg N i)) := fun t ht hs N2 hr => by
          refine ⟨fun i hi hb => ?_, fun i hi hb => ?_⟩
          · obtain ⟨iS, f, hf⟩ := (cnN_bit S).mp (hs i hb)
            exact (hr i iS f hf).1
          · obtain ⟨iS, f, hf⟩ := (cnN_bit S).mp (hs i hb)
            exact (hr i iS f hf).2
        have bsub : ∀ n, n < 2 ^ S → ∀ i, (bsL N q n).testBit i = true → (cnN N S).testBit i = true := fun n hn => ptt_sub h8 (Nat.lt_of_le_of_lt (bsL_b n).1 hn) (bsL_b n).2 hq
        induction k generalizing n with
        | zero =>
          intro hn N2 hm hr
          have hn : n = cnN N S := by omega
          subst hn
          refine gX11_line_91 (d := 199) ⟨fun _ => ⟨fun z => ⟨by rw [if_pos z], me_pe hm⟩, fun z => ⟨_, kX11_sumOfs (d := 198) (ok _ (Nat.lt_of_le_of_lt (bsL_b _).1 cl) (bsub _ cl) N2 hr).2, fun zr N3 q3 => ?_⟩⟩, fun z => absurd (nI_lt (by omega) (by omega)) z⟩
          rw [q3.1, q3.2]
          exact gX11_line_197 ⟨by rw [if_neg z]; rfl, me_pe hm⟩
        | succ k ih =>
          intro hn N2 hm hr
          have ih := ih (n + 1) (by omega) N2 hm hr
          have p1 := pb (n + 1) (by omega)
          have bb1 := bsL_b (N := N) (q := q) n
          have p2 := pb (bsL N q n) (by omega)
          have v1 := vb (n + 1) (by omega)
          have v2 := vb (bsL N q n) (by omega)
          rw [bsL] at ih
          have no : ¬ (ptt N (n + 1) ≤ q ∧ (vtt N (bsL N q n) < vtt N (n + 1) ∨ (vtt N (n + 1) = vtt N (bsL N q n) ∧ ptt N (n + 1) < ptt N (bsL N q n)))) → Ev LM 200 mX11_line 91 [some (.ref 0), some (.int (nI q)), some (.int y), some (.int (nI (cnN N S))), some (.int (nI (bsL N q n))), some (.int (nI (n + 1) + 1)), none] [] N2 (fun r N2 => r = some (.int (if y = 0 then nI (bsL N q (cnN N S)) else nI (vtt N (bsL N q (cnN N S))))) ∧ pe N N2) := fun z => by
            rw [if_neg z] at ih; rw [nI_1]; exact ih
          have ye : (ptt N (n + 1) ≤ q ∧ (vtt N (bsL N q n) < vtt N (n + 1) ∨ (vtt N (n + 1) = vtt N (bsL N q n) ∧ ptt N (n + 1) < ptt N (bsL N q n)))) → Ev LM 200 mX11_line 91 [some (.ref 0), some (.int (nI q)), some (.int y), some (.int (nI (cnN N S))), some (.int (nI (n + 1))), some (.int (nI (n + 1) + 1)), none] [] N2 (fun r N2 => r = some (.int (if y = 0 then nI (bsL N q (cnN N S)) else nI (vtt N (bsL N q (cnN N S))))) ∧ pe N N2) := fun z => by
            rw [if_pos z] at ih; rw [nI_1]; exact ih
          refine gX11_line_91 (d := 199) ⟨fun z => absurd z (nI_nlt (by omega) (by omega)), fun _ => ?_⟩
          rw [sub_z (by omega)]
          refine ⟨fun z => no (fun y => z (ptt_sub h8 (by omega) y.1 hq)), fun z => ?_⟩
          obtain ⟨o1, o2⟩ := ok (n + 1) (by omega) z N2 hr
          obtain ⟨b1, b2⟩ := ok (bsL N q n) (by omega) (bsub n (by omega)) N2 hr
          refine ⟨_, kX11_sumOfp (d := 198) o1, fun zr N3 q3 => ?_⟩
          rw [q3.1, q3.2]
          refine gX11_line_115 (d := 199) ⟨fun a => ⟨_, kX11_sumOfs (d := 198) o2, fun zr N4 q4 => ?_⟩, fun a => ?_⟩
          · have a' : ptt N (n + 1) ≤ q := (nI_leI (by omega) (by omega)).mp a
            rw [q4.1, q4.2]
            refine gX11_line_131 (d := 199) ⟨_, kX11_sumOfs (d := 198) b2, fun zr N5 q5 => ?_⟩
            rw [q5.1, q5.2]
            have ei : (nI (smN (svg N) (n + 1) 8) - nI (smN (svg N) (bsL N q n) 8) : Int32).toInt = (vtt N (n + 1) : Int) - vtt N (bsL N q n) := pk_sub_toInt (by unfold vtt at v1; omega) (by unfold vtt at v2; omega)
            refine gX11_line_140 (d := 199) ⟨fun b => ?_, fun b => ⟨fun c => ?_, fun c => ⟨_, kX11_sumOfp (d := 198) o1, fun zr N6 q6 => ?_⟩⟩⟩
            · rw [I_lt, I_0, ei] at b
              exact ye ⟨a', Or.inl (by omega)⟩
            · rw [I_lt, I_0, ei] at b
              rw [I_eq, I_0, ei] at c
              exact no (by omega)
            · rw [I_lt, I_0, ei] at b
              rw [I_eq, I_0, ei] at c
              rw [q6.1, q6.2]
              refine gX11_line_162 (d := 199) ⟨_, kX11_sumOfp (d := 198) b1, fun zr N7 q7 => ?_⟩
              rw [q7.1, q7.2]
              refine gX11_line_171 ⟨fun e => ?_, fun e => ?_⟩
              · have e' : ptt N (bsL N q n) ≤ ptt N (n + 1) := (nI_leI (by omega) (by omega)).mp e
                exact no (by omega)
              · have e' : ¬ ptt N (bsL N q n) ≤ ptt N (n + 1) := mt (nI_le · (by omega)) e
                exact ye ⟨a', Or.inr ⟨by omega, by omega⟩⟩
          · have a' : ¬ ptt N (n + 1) ≤ q := mt (nI_le · (by omega)) a
            exact no (by omega)
      have lp : ∀ i, i ≤ S → ∀ N2, me N N2 → laid N N2 W → (∀ j, j < i → ∀ f, bN N j = some f → N2.1 18 j = nI (prc N j) ∧ N2.1 19 j = nI (svg N j)) → Ev LM 200 mX11_line 22 [some (.ref 0), some (.int (nI q)), some (.int y), some (.int (nI (cnN N i))), some (.int (nI i)), none, none] [] N2 (fun r N2 => r = some (.int (if y = 0 then nI (bsL N q (cnN N S)) else nI (vtt N (bsL N q (cnN N S))))) ∧ pe N N2) := by
        refine dn ?_ (fun i hi ih => ?_)
        · intro N2 hm hl hr
          refine gX11_line_22 (d := 199) ⟨fun _ => l2 0 (cnN N S) (by omega) N2 hm hr, fun z => absurd ?_ z⟩
          rw [hm 1 (by omega), hS.2.2.1]; exact nI_le (Nat.le_refl _) (by omega)
        · intro N2 hm hl hr
          refine gX11_line_22 (d := 199) ⟨fun z => ?_, fun _ => ⟨_, Cl.mono (leastN (d := 195) hsd hS hi (hm 1 (by omega)) hl) (fun _ _ q => q), fun zr N3 q3 => ?_⟩⟩
          · rw [hm 1 (by omega), hS.2.2.1] at z; exact absurd z (nI_ge hi (by omega))
          · have hm3 := hm.tr (me_o q3.1)
            have hl3 : laid N N3 W := fun w hw => by rw [q3.1.1 11 (by omega) (by omega)]; exact hl w hw
            have hr3 : ∀ j, j < i → ∀ f, bN N j = some f → N3.1 18 j = nI (prc N j) ∧ N3.1 19 j = nI (svg N j) := fun j hj f hf => by rw [q3.1.1 18 (by omega) (by omega), q3.1.1 19 (by omega) (by omega)]; exact hr j hj f hf
            rcases q3.2 with ⟨hb, e⟩ | ⟨f, hb, e, hc⟩
            · rw [e]
              refine gX11_line_39 (d := 199) ⟨fun z => absurd rfl z, fun _ => ?_⟩
              rw [cnN, ifb_n hb] at ih
              rw [nI_1]
              refine ih N3 hm3 hl3 (fun j hj f hf => ?_)
              by_cases ej : j = i
              · rw [ej, hb] at hf; cases hf
              · exact hr3 j (by omega) f hf
            · rw [e]
              refine gX11_line_39 (d := 199) ⟨fun _ v1 e1 => ⟨_, penN (d := 198) hsd hS hi hb hm3 hc, fun zr N4 q4 => ?_⟩, fun z => absurd z (cN_nm (k := 0) hb)⟩
              rw [q4.1, q4.2]
              refine gX11_line_65 (d := 199) ⟨vp_in_nI (by omega) (by omega), fun N5 e5 => ?_⟩
              rw [nI_clamp (by omega)] at e5
              have m5 : me N N5 := fun k hk => by rw [e5, wr_cell (by omega)]; exact hm3 k hk
              refine ⟨_, secN (d := 195) hsd hS hi hb m5 (fun p hp => by rw [e5, wr_cell (by omega)]; exact hc p hp), fun zr N6 q6 => ?_⟩
              rw [q6.1, q6.2]
              refine gX11_line_78 ⟨vp_in_nI (by omega) (by omega), fun N7 e7 => ?_⟩
              rw [nI_clamp (by omega)] at e7
              rw [cnN, ifb_s hb] at ih
              rw [sh1 i (by omega), fa_or] at e1
              rw [nI_1, e1]
              refine ih N7 (fun k hk => by rw [e7, wr_cell (by omega)]; exact m5 k hk) (fun w hw => by rw [e7, wr_cell (by omega), e5, wr_cell (by omega)]; exact hl3 w hw) (fun j hj g hg => ?_)
              have e18 : N7.1 18 = upd (N3.1 18) i (pcv N i f) := by rw [e7, wr_cell (by omega), e5, wr_row]; rfl
              have e19 : N7.1 19 = upd (N3.1 19) i (scl N i f) := by rw [e7, wr_row, e5, wr_cell (by omega)]; rfl
              rw [e18, e19]
              by_cases ej : j = i
              · rw [ej, upd_eq, upd_eq]
                exact ⟨(prc_s hS hi hb).1, (svg_s hsd hS hi hb).1⟩
              · rw [upd_ne ej, upd_ne ej]; exact hr3 j (by omega) g hg
      exact lp 0 (by omega) N1 q1.2.1 q1.2.2 (fun j hj => absurd hj (by omega))
end
