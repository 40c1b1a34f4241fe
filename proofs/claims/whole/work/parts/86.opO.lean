/-! CALLS: wrote, fewest, lot -/
section
variable {d B : Nat} {M N : ev_Mem} {W T S s f : Nat} {lo : Int32}
theorem pcF_s : ∀ n x, pcF (n + 1) x = pcF n x + (if x.testBit n = true then 1 else 0)
  | 0, x => by
    rw [pcF, pcF, pcF, Nat.testBit_zero]
    by_cases h : x % 2 = 1
    · rw [decide_eq_true h, if_pos rfl, h]
    · rw [decide_eq_false h, if_neg (by decide)]; omega
  | n + 1, x => by
    rw [pcF, pcF_s n (x / 2), pcF, Nat.testBit_succ]
    omega
theorem pcF_cnt : ∀ n x, pcF n x = fa_cnt (fun i => x.testBit i) n
  | 0, _ => rfl
  | n + 1, x => by rw [pcF_s, pcF_cnt n x]; rfl
theorem cnt_big {p : Nat → Bool} {n : Nat} : ∀ m, (∀ i, n ≤ i → p i = false) → fa_cnt p (n + m) = fa_cnt p n
  | 0, _ => rfl
  | m + 1, h => by rw [show n + (m + 1) = (n + m) + 1 by omega, fa_cnt_no (h (n + m) (by omega)), cnt_big m h]
theorem cnt_not {p q : Nat → Bool} : ∀ n, (∀ i, i < n → q i = !p i) → fa_cnt p n + fa_cnt q n = n
  | 0, _ => rfl
  | n + 1, h => by
    have ih := cnt_not (p := p) (q := q) n (fun i hi => h i (by omega))
    have hn := h n (by omega)
    cases e : p n with
    | true => rw [e] at hn; rw [fa_cnt_yes e, fa_cnt_no hn]; omega
    | false => rw [e] at hn; rw [fa_cnt_no e, fa_cnt_yes hn]; omega
theorem tb_26 {t i : Nat} (ht : t < 2 ^ 26) (hi : 26 ≤ i) : t.testBit i = false := Nat.testBit_lt_two_pow (Nat.lt_of_lt_of_le ht (Nat.pow_le_pow_right (by omega) hi))
theorem bc_cnt {t : Nat} (ht : t < 2 ^ 26) : bc (nI t) = nI (fa_cnt (fun i => t.testBit i) 26) := by
  rw [bc_pc (by omega), pcF_cnt, cnt_big (n := 26) 6 (fun i hi => tb_26 ht hi)]
/-- what isn't in a set of keys -/
theorem cmp_nI {t : Nat} (ht : t < 2 ^ 26) : (67108863 : Int32) &&& (nI t ^^^ (-1)) = nI (2 ^ 26 - 1 - t) := by
  refine b_ext fun i hi => ?_
  rw [b_and, b_xor, b_m1 i hi, show (67108863 : Int32) = nI (2 ^ 26 - 1) from rfl, bt_nI hi, bt_nI hi, bt_nI hi, Nat.testBit_two_pow_sub_one, show 2 ^ 26 - 1 - t = 2 ^ 26 - (t + 1) by omega, Nat.testBit_two_pow_sub_succ (by omega), Bool.xor_true]
theorem bc_cmp {t : Nat} (ht : t < 2 ^ 26) : (26 : Int32) - bc (nI t) = bc (nI (2 ^ 26 - 1 - t)) := by
  have h := cnt_not (p := fun i => t.testBit i) (q := fun i => (2 ^ 26 - 1 - t).testBit i) 26 (fun i hi => by
    rw [show 2 ^ 26 - 1 - t = 2 ^ 26 - (t + 1) by omega, Nat.testBit_two_pow_sub_succ (by omega), decide_eq_true hi, Bool.true_and])
  rw [bc_cnt ht, bc_cnt (t := 2 ^ 26 - 1 - t) (by omega), show (26 : Int32) = nI 26 from rfl, pk_sub (by omega)]
  congr 1
  omega
/-- the keys of the page's first n words -/
def pgT (N : ev_Mem) : Nat → Int32
  | 0 => 0
  | n + 1 => if 3 < aw N (N.1 1 (451 + n)).toNatClampNeg 0 then pgT N n else pgT N n ||| ltM N (N.1 1 (451 + n))
theorem up_or {x y : Int32} (hx : upto x (2 ^ 26 - 1)) (hy : upto y (2 ^ 26 - 1)) : upto (x ||| y) (2 ^ 26 - 1) := by
  obtain ⟨a, ha, rfl⟩ := hx
  obtain ⟨b, hb, rfl⟩ := hy
  rw [fa_or]
  have := Nat.or_lt_two_pow (x := a) (y := b) (n := 26) (by omega) (by omega)
  exact ⟨_, by omega, rfl⟩
theorem lts_up {g : Nat → Int32} : ∀ n, (∀ i, i < n → upto (g i) 25) → upto (lts g n) (2 ^ 26 - 1)
  | 0, _ => ⟨0, by omega, rfl⟩
  | n + 1, h => by
    obtain ⟨j, hj, ej⟩ := h n (by omega)
    rw [lts, ej]
    exact or_up (lts_up n (fun i hi => h i (by omega))) (by omega)
theorem ltM_up (h : sdR M N W T lo) {w : Nat} (hw : w < W) : upto (ltM N (nI w)) (2 ^ 26 - 1) := by
  have h24 := h.w24
  obtain ⟨l1, l9, l3, l29, ll⟩ := sd_ln h hw
  unfold ltM
  rw [nI_clamp (by omega), l3, nI_clamp (by omega)]
  exact lts_up _ (fun i hi => (ll i hi).2)
theorem pgT_up (h : sdR M N W T lo) : ∀ n, (∀ i, i < n → ∃ w, w < W ∧ N.1 1 (451 + i) = nI w) → upto (pgT N n) (2 ^ 26 - 1)
  | 0, _ => ⟨0, by omega, rfl⟩
  | n + 1, hp => by
    have ih := pgT_up h n (fun i hi => hp i (by omega))
    obtain ⟨w, hw, ew⟩ := hp n (by omega)
    rw [pgT]
    split
    · exact ih
    · rw [ew]; exact up_or ih (ltM_up h hw)
theorem pageX {p : Nat} (h : sdR M N W T lo) (p8 : p ≤ 8) (hm : M.1 47 5 = nI p) (hp : ∀ i, i < p → M.1 50 i = N.1 1 (451 + i) ∧ ∃ w, w < W ∧ N.1 1 (451 + i) = nI w) : Cl LX (d + 1) mX10_keysOfPage [.ref 0] M (ev_R (some (.int (pgT N p))) M) := by
  have h24 := h.w24
  refine Cl_of rfl (Nat.le_of_ble_eq_true rfl) rfl (gX10_keysOfPage_0 ?_)
  have lp : ∀ i, i ≤ p → Ev LX (d + 1) mX10_keysOfPage 4 [some (.ref 0), some (.int (pgT N i)), some (.int (nI i)), none] [] M (ev_R (some (.int (pgT N p))) M) := by
    refine dn ?_ (fun i hi ih => ?_)
    · exact gX10_keysOfPage_4 ⟨fun _ => ⟨rfl, rfl⟩, fun z => absurd (by rw [hm]; exact nI_le (Nat.le_refl _) (by omega)) z⟩
    · obtain ⟨e1, w, hw, ew⟩ := hp i hi
      rw [pgT, ew, nI_clamp (by omega)] at ih
      have e30 : M.1 30 w = aw N w 0 := (h.wr w hw).1.2.1
      refine gX10_keysOfPage_4 ⟨fun z => ?_, fun _ => ⟨vp_in_nI (by omega) (by omega), ⟨W, h24, h.mw⟩, ?_⟩⟩
      · rw [hm] at z; exact absurd z (nI_ge hi (by omega))
      · rw [nI_clamp (by omega), e1, ew, nI_clamp (by omega), e30]
        refine ⟨fun z => bb z (wd_t h24 h.mw ⟨w, hw, rfl⟩), fun _ => ⟨vp_in_nI (by omega) (by omega), fun z => ?_, fun z => ⟨sd_wd h hw, fun v1 ev => ?_⟩⟩⟩
        · rw [if_pos z] at ih; rw [nI_1]; exact ih
        · rw [if_neg z] at ih
          rw [sd_lts h hw] at ev
          rw [nI_1, ev]; exact ih
  exact lp 0 (by omega)
def cmI (x : Int32) : Int32 := 67108863 &&& (x ^^^ (-1))
theorem i451 {i : Nat} (hi : i < 8) : (451 : Int32) + nI i = nI (451 + i) := by rw [show (451 : Int32) = nI 451 from rfl, nI_add]
theorem pageM {p : Nat} {Ni : ev_Mem} (h : sdR M N W T lo) (p8 : p ≤ 8) (hn : N.1 1 5 = nI p) (hp : ∀ i, i < p → ∃ w, w < W ∧ N.1 1 (451 + i) = nI w) (e1 : Ni.1 1 = N.1 1) : Cl LM (d + 2) mX11_mayBeLost [.ref 0] Ni (ev_R (some (.int (cmI (pgT N p)))) Ni) := by
  have h24 := h.w24
  refine Cl_of rfl (Nat.le_of_ble_eq_true rfl) rfl (gX11_mayBeLost_0 ?_)
  have lp : ∀ i, i ≤ p → Ev LM (d + 2) mX11_mayBeLost 6 [some (.ref 0), some (.int (cmI (pgT N i))), some (.int (nI i))] [] Ni (ev_R (some (.int (cmI (pgT N p)))) Ni) := by
    refine dn ?_ (fun i hi ih => ?_)
    · exact gX11_mayBeLost_6 ⟨fun _ => ⟨rfl, rfl⟩, fun z => absurd (by rw [e1, hn]; exact nI_le (Nat.le_refl _) (by omega)) z⟩
    · obtain ⟨w, hw, ew⟩ := hp i hi
      rw [pgT, ew, nI_clamp (by omega)] at ih
      refine gX11_mayBeLost_6 ⟨fun z => ?_, fun _ => ?_⟩
      · rw [e1, hn] at z; exact absurd z (nI_ge hi (by omega))
      · rw [i451 (by omega), nI_clamp (by omega), e1, ew]
        have a0 : N.1 1 (39 + 13 * nI w + 0).toNatClampNeg = aw N w 0 := aw0 (by omega)
        rw [a0]
        refine ⟨vp_in_nI (by omega) (by omega), awi0 (by omega), fun z => ?_, fun z => ⟨vp_in_nI (by omega) (by omega), wm_1 e1 (sd_wm h hw), fun v1 ev => ?_⟩⟩
        · rw [if_pos z] at ih; rw [nI_1]; exact ih
        · rw [if_neg z] at ih
          have el : ltM Ni (nI w) = ltM N (nI w) := by unfold ltM; rw [aw_1 e1]
          have ec : cmI (pgT N i) &&& (ltM N (nI w) ^^^ (-1)) = cmI (pgT N i ||| ltM N (nI w)) := b_ext fun j hj => by
            unfold cmI
            rw [b_and, b_and, b_xor, b_xor, b_and, b_xor, b_or, b_m1 j hj]
            cases bt (67108863 : Int32) j <;> cases bt (pgT N i) j <;> cases bt (ltM N (nI w)) j <;> rfl
          rw [el, ec] at ev
          rw [nI_1, ev]; exact ih
  have := lp 0 (by omega)
  rw [show cmI (pgT N 0) = 67108863 from cmp_nI (t := 0) (by omega)] at this
  exact this
theorem op_wrote (h : RX B M N) (x : Int32) : OP 200 mX10_wrote mX11_wrote [.int x] B M N := by
  obtain ⟨W, S, T, Wk, Sk, Tk, h1, h2, h3, h4, h5, h6⟩ := id h
  obtain ⟨hsd, hS⟩ := RX_sd h1 h4
  obtain ⟨-, -, ⟨p, p8, pm, pn, pr⟩, -⟩ := nRel_iff.mp h1.1.2.2.2
  obtain ⟨t, ht, et⟩ := pgT_up hsd p (fun i hi => (pr i hi).2)
  have ec : cmI (nI t) = nI (2 ^ 26 - 1 - t) := cmp_nI (by omega)
  have eb : (26 : Int32) - bc (nI t) = bc (nI (2 ^ 26 - 1 - t)) := bc_cmp (by omega)
  refine op_ro (v := some (.int (if x = 0 then bc (nI (2 ^ 26 - 1 - t)) + bc (nI (2 ^ 26 - 1 - t)) * (bc (nI (2 ^ 26 - 1 - t)) - 1) / 2 else if x = 1 then (if bc (nI (2 ^ 26 - 1 - t)) = 1 then nI (2 ^ 26 - 1 - t) else 0) else if x = 2 then nI t else -1))) h ?_ ?_
  · refine Cl_of rfl (Nat.le_of_ble_eq_true rfl) rfl (gX10_wrote_0 (d := 199) ⟨_, pageX (d := 198) hsd p8 pm pr, fun zr M2 q => ?_⟩)
    rw [q.1, q.2, et]
    refine gX10_wrote_4 (d := 199) ?_
    rw [eb]
    refine ⟨fun z => ⟨by rw [if_pos z], xq.rf⟩, fun z => ⟨fun y => ⟨?_, xq.rf⟩, fun y => ⟨?_, xq.rf⟩⟩, fun z => ⟨?_, xq.rf⟩, fun z => ⟨?_, xq.rf⟩⟩
    · rw [z, if_neg (by decide), if_pos rfl, if_neg y]
    · rw [z, if_neg (by decide), if_pos rfl, if_pos y, show (67108863 : Int32) = nI (2 ^ 26 - 1) from rfl, pk_sub ht]
    · rw [z, if_neg (by decide), if_neg (by decide), if_pos rfl]
    · rw [if_neg z.1, if_neg z.2.1, if_neg z.2.2]
  · refine Cl_of rfl (Nat.le_of_ble_eq_true rfl) rfl (gX11_wrote_0 (d := 199) ⟨fun z => ⟨_, pageM (d := 197) hsd p8 pn (fun i hi => (pr i hi).2) rfl, fun zr N2 q => ?_⟩, fun z => ⟨?_, pe.rf⟩⟩)
    · rw [q.1, q.2, et, ec]
      refine gX11_wrote_15 (d := 199) ⟨fun a => ⟨fun b => ⟨?_, pe.rf⟩, fun b => ⟨fun c => ⟨?_, pe.rf⟩, fun c => ⟨?_, pe.rf⟩⟩⟩, fun a => ⟨by rw [if_pos a], pe.rf⟩⟩
      · obtain ⟨j, hj, rfl⟩ := (iin_lit 2 (by omega)).mp z
        have : j = 2 := by
          have h0 : j ≠ 0 := fun e => a (by rw [e]; rfl)
          have h1 : j ≠ 1 := fun e => b (by rw [e]; rfl)
          omega
        subst this
        rw [if_neg a, if_neg b, if_pos (show nI 2 = (2 : Int32) from rfl), cmp_nI (by omega), show 2 ^ 26 - 1 - (2 ^ 26 - 1 - t) = t by omega]
      · rw [if_neg a, if_pos b, if_neg c]
      · rw [if_neg a, if_pos b, if_pos c]
    · rw [if_neg (fun e => by rw [e] at z; cases z), if_neg (fun e => by rw [e] at z; cases z), if_neg (fun e => by rw [e] at z; cases z)]
def fwf (N : ev_Mem) (t : Int32) : Nat → Int32 × Int32
  | 0 => (-1, 0)
  | n + 1 => if 3 < aw N n 0 then fwf N t n else if bc (ltM N (nI n) &&& (t ^^^ (-1))) ≤ (fwf N t n).2 then fwf N t n else (nI n, bc (ltM N (nI n) &&& (t ^^^ (-1))))
theorem fwf_m {t : Int32} : ∀ n, ¬ (fwf N t n).2 < 0
  | 0 => by show ¬ (0 : Int32) < 0; decide
  | n + 1 => by
    rw [fwf]
    split
    · exact fwf_m n
    · split
      · exact fwf_m n
      · rename_i z
        have := fwf_m (t := t) n
        have z := I_nle.mp z
        rw [I_lt] at this z ⊢
        show ¬ (bc (ltM N (nI n) &&& (t ^^^ (-1)))).toInt < _
        omega
theorem op_fewest (h : RX B M N) : OP 200 mX10_fewest mX11_fewest [] B M N := by
  obtain ⟨W, S, T, Wk, Sk, Tk, h1, h2, h3, h4, h5, h6⟩ := id h
  obtain ⟨hsd, hS⟩ := RX_sd h1 h4
  have h24 := hsd.w24
  obtain ⟨-, -, ⟨p, p8, pm, pn, pr⟩, -⟩ := nRel_iff.mp h1.1.2.2.2
  refine op_ro (v := some (.int (fwf N (pgT N p) W).1)) h ?_ ?_
  · refine Cl_of rfl (Nat.le_of_ble_eq_true rfl) rfl (gX10_fewest_0 (d := 199) ⟨_, pageX (d := 198) hsd p8 pm pr, fun zr M2 q => ?_⟩)
    rw [q.1, q.2]
    refine gX10_fewest_4 ?_
    have lp : ∀ i, i ≤ W → Ev LX 200 mX10_fewest 12 [some (.ref 0), some (.int (pgT N p)), some (.int (fwf N (pgT N p) i).1), some (.int (fwf N (pgT N p) i).2), some (.int (nI i)), none] [] M (fun r M2 => r = some (.int (fwf N (pgT N p) W).1) ∧ xq M M2) := by
      refine dn ?_ (fun i hi ih => ?_)
      · exact gX10_fewest_12 (d := 199) ⟨fun _ => ⟨rfl, xq.rf⟩, fun z => absurd (by rw [hsd.mw]; exact nI_le (Nat.le_refl _) (by omega)) z⟩
      · rw [fwf] at ih
        have e30 : M.1 30 i = aw N i 0 := (hsd.wr i hi).1.2.1
        refine gX10_fewest_12 (d := 199) ⟨fun z => ?_, fun _ => ⟨vp_in_nI (by omega) (by omega), ?_⟩⟩
        · rw [hsd.mw] at z; exact absurd z (nI_ge hi (by omega))
        · rw [nI_clamp (by omega), e30, sd_lts hsd hi]
          refine ⟨fun z => ?_, fun z => ⟨sd_wd hsd hi, fun v1 e1 => ⟨fun y => ?_, fun y => ?_⟩⟩⟩
          · rw [if_pos z] at ih; rw [nI_1]; exact ih
          · rw [e1] at y
            rw [if_neg z, if_pos y] at ih; rw [nI_1]; exact ih
          · rw [e1] at y ⊢
            rw [if_neg z, if_neg y] at ih; rw [nI_1]; exact ih
    exact lp 0 (by omega)
  · refine Cl_of rfl (Nat.le_of_ble_eq_true rfl) rfl (gX11_fewest_0 ?_)
    have lp : ∀ i, i ≤ W → Ev LM 200 mX11_fewest 6 [some (.ref 0), some (.int (fwf N (pgT N p) i).1), some (.int (fwf N (pgT N p) i).2), some (.int (nI i)), none] [] N (fun r N2 => r = some (.int (fwf N (pgT N p) W).1) ∧ pe N N2) := by
      refine dn ?_ (fun i hi ih => ?_)
      · exact gX11_fewest_6 (d := 198) ⟨fun _ => ⟨rfl, pe.rf⟩, fun z => absurd (by rw [hsd.nw]; exact nI_le (Nat.le_refl _) (by omega)) z⟩
      · rw [fwf] at ih
        have hm := fwf_m (N := N) (t := pgT N p) i
        refine gX11_fewest_6 (d := 198) ⟨fun z => ?_, fun _ => ⟨awi0 (by omega), ?_⟩⟩
        · rw [hsd.nw] at z; exact absurd z (nI_ge hi (by omega))
        · have a0 : N.1 1 (39 + 13 * nI i + 0).toNatClampNeg = aw N i 0 := aw0 (by omega)
          rw [a0]
          refine ⟨fun z => ⟨fun y => absurd y hm, fun _ => ?_⟩, fun z => ⟨sd_wm hsd hi, _, pageM (d := 197) hsd p8 pn (fun i hi => (pr i hi).2) rfl, fun zr N2 q => ?_⟩⟩
          · rw [if_pos z] at ih; rw [nI_1]; exact ih
          · rw [q.1, q.2]
            have el : ltM N (nI i) &&& cmI (pgT N p) = ltM N (nI i) &&& (pgT N p ^^^ (-1)) := b_ext fun j hj => by
              unfold cmI
              rw [b_and, b_and, b_and, show (67108863 : Int32) = nI (2 ^ 26 - 1) from rfl, bt_nI hj, Nat.testBit_two_pow_sub_one]
              by_cases j26 : j < 26
              · rw [decide_eq_true j26, Bool.true_and]
              · obtain ⟨a, ha, ea⟩ := ltM_up hsd hi
                rw [ea, bt_nI hj, tb_26 (by omega) (by omega), Bool.false_and, Bool.false_and]
            refine gX11_fewest_35 (d := 199) ?_
            rw [el]
            refine ⟨fun y => ?_, fun y => ?_⟩
            · rw [if_neg z, if_neg (I_nle.mpr y)] at ih; rw [nI_1]; exact ih
            · rw [if_neg z, if_pos (I_nlt.mp y)] at ih; rw [nI_1]; exact ih
    exact lp 0 (by omega)
end
