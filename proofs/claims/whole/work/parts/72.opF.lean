/-! CALLS: none, worst, few -/
section
variable {d B : Nat} {M N : ev_Mem} {W T S s f : Nat} {lo : Int32}
def nov (N : ev_Mem) : Nat → Int32
  | 0 => 0
  | n + 1 => ifb N n (nov N n ||| (1 <<< (nI n &&& 31))) (fun _ => nov N n)
theorem or0 (x : Int32) : x ||| 0 = x := b_ext fun i _ => by rw [b_or, b_0, Bool.or_false]
theorem op_none (h : RX B M N) : OP 200 mX10_none mX11_none [] B M N := by
  obtain ⟨W, S, T, Wk, Sk, Tk, h1, h2, h3, h4, h5, h6⟩ := id h
  obtain ⟨hsd, hS⟩ := RX_sd h1 h4
  have h8 := hS.1
  refine op_ro (v := some (.int (nov N S))) h ?_ ?_
  · refine Cl_of rfl (Nat.le_of_ble_eq_true rfl) rfl (gX10_none_0 (d := 199) ⟨_, hearN (d := 194) hsd, fun zr M1 q => ?_⟩)
    rw [q.1]
    refine gX10_none_4 ?_
    have lp : ∀ i, i ≤ S → ∀ M2, qfr M M2 → hrd N M2 W (M.1 43 0) → Ev LX 200 mX10_none 8 [some (.ref 0), some (.int (nov N i)), some (.int (nI i))] [] M2 (fun r M2 => r = some (.int (nov N S)) ∧ xq M M2) := by
      refine dn ?_ (fun i hi ih => ?_)
      · intro M2 hq hh
        refine gX10_none_8 (d := 199) ⟨fun _ => ⟨rfl, xq_q hq⟩, fun z => absurd ?_ z⟩
        rw [hq.1 3 (by omega), hS.2.1]; exact nI_le (Nat.le_refl _) (by omega)
      · intro M2 hq hh
        refine gX10_none_8 (d := 199) ⟨fun z => ?_, fun _ => ⟨_, costH (d := 196) hsd hS hi (fun k hk => hq.1 k (by omega)) hh, fun zr M3 q3 => ?_⟩⟩
        · rw [hq.1 3 (by omega), hS.2.1] at z; exact absurd z (nI_ge hi (by omega))
        · have nx := ih M3 (hq.tr (qfr_p q3.2.1)) q3.2.2
          rw [q3.1]
          refine gX10_none_27 ⟨fun z => ?_, fun z v1 e1 => ?_⟩
          · obtain ⟨f, hf⟩ := cov_lt.mp z
            rw [nov, ifb_s hf] at nx
            rw [nI_1]; exact nx
          · have hn : bN N i = none := by
              cases e : bN N i with
              | none => rfl
              | some f => exact absurd (cov_lt.mpr ⟨f, e⟩) z
            rw [nov, ifb_n hn] at nx
            rw [nI_1, e1]; exact nx
    exact lp 0 (by omega) M1 (qfr_u q.2.1) q.2.2
  · refine Cl_of rfl (Nat.le_of_ble_eq_true rfl) rfl (gX11_none_0 (d := 199) ⟨_, layN (d := 194) hsd, fun zr N1 q => ?_⟩)
    rw [q.1]
    refine gX11_none_4 ?_
    have lp : ∀ i, i ≤ S → ∀ N2, me N N2 → laid N N2 W → Ev LM 200 mX11_none 8 [some (.ref 0), some (.int (nov N i)), some (.int (nI i))] [] N2 (fun r N2 => r = some (.int (nov N S)) ∧ pe N N2) := by
      refine dn ?_ (fun i hi ih => ?_)
      · intro N2 hq hh
        refine gX11_none_8 (d := 199) ⟨fun _ => ⟨rfl, me_pe hq⟩, fun z => absurd ?_ z⟩
        rw [hq 1 (by omega), hS.2.2.1]; exact nI_le (Nat.le_refl _) (by omega)
      · intro N2 hq hh
        refine gX11_none_8 (d := 199) ⟨fun z => ?_, fun _ => ⟨_, leastH (d := 195) hsd hS hi hq hh, fun zr N3 q3 => ?_⟩⟩
        · rw [hq 1 (by omega), hS.2.2.1] at z; exact absurd z (nI_ge hi (by omega))
        · have nx := ih N3 (hq.tr q3.1) q3.2.1
          rcases q3.2.2 with ⟨hb, e⟩ | ⟨f, hb, e, -⟩
          · rw [e]
            refine gX11_none_24 ⟨fun z => absurd rfl z, fun _ v1 e1 => ?_⟩
            rw [nov, ifb_n hb] at nx
            rw [nI_1, e1]; exact nx
          · rw [e]
            refine gX11_none_24 ⟨fun _ => ?_, fun z => absurd z (cN_nm (k := 0) hb)⟩
            rw [nov, ifb_s hb] at nx
            rw [nI_1, or0]; exact nx
    exact lp 0 (by omega) N1 q.2.1 q.2.2
/-- the sum of what all sentences cost -/
def tot (N : ev_Mem) : Nat → Int32
  | 0 => 0
  | n + 1 => tot N n + ifb N n 50 (fun f => nI (cN N n (lnN N n - 1) f))
theorem totX {Mi : ev_Mem} {lo2 : Int32} (h : sdR M N W T lo) (hS : senR M N S) (hl : upto lo2 (2 ^ 26 - 1)) (hM : qfr M Mi) (hh : Mi.1 86 8 = -1 ∨ heldI Mi N W) :
    Cl LX (d + 6) mX10_totalWith [.ref 0, .int lo2] Mi (fun r M2 => r = some (.int (tot (lsN N lo2) S)) ∧ qfr M M2 ∧ heldI M2 N W) := by
  have h8 := hS.1
  have hc : ∀ k, k < 82 → Mi.1 k = M.1 k := fun k hk => hM.1 k (by omega)
  have hi := sdR_cg hc h
  have hsd2 := sd_ls hi hl
  have hS2 := sen_ls (l2 := lo2) (senR_cg (fun k hk => hc k (by omega)) hS)
  refine Cl_of rfl (Nat.le_of_ble_eq_true rfl) rfl (gX10_totalWith_0 (d := d + 4) ⟨sd_okT hi, ?_⟩)
  have et : Mi.1 47 3 = (lsN N lo2).1 1 3 := hsd2.te
  rw [et]
  refine ⟨_, kX6_suppose (d := d + 1) hsd2 (hh.imp id held_ls), fun zr M1 q => ?_⟩
  rw [q.1]
  refine gX10_totalWith_12 ?_
  have lp : ∀ i, i ≤ S → ∀ M2, qfr Mi M2 → hrd (lsN N lo2) M2 W lo2 → Ev LX (d + 6) mX10_totalWith 16 [some (.ref 0), none, some (.int (tot (lsN N lo2) i)), some (.int (nI i)), none] [] M2 (fun r M2 => r = some (.int (tot (lsN N lo2) S)) ∧ qfr M M2 ∧ heldI M2 N W) := by
    refine dn ?_ (fun i hi ih => ?_)
    · intro M2 hq hh
      refine gX10_totalWith_16 (d := d + 5) ⟨fun _ => ⟨rfl, hM.tr hq, ?_⟩, fun z => absurd ?_ z⟩
      · have := held_ls (l2 := N.1 1 9) hh.2.1
        rw [lsN_l, lsN_id] at this
        exact this
      · rw [hq.1 3 (by omega), hS2.2.1]; exact nI_le (Nat.le_refl _) (by omega)
    · intro M2 hq hh
      refine gX10_totalWith_16 (d := d + 5) ⟨fun z => ?_, fun _ => ⟨_, costH (d := d + 2) hsd2 hS2 hi (fun k hk => hq.1 k (by omega)) hh, fun zr M3 q3 => ?_⟩⟩
      · rw [hq.1 3 (by omega), hS2.2.1] at z; exact absurd z (nI_ge hi (by omega))
      · have nx := ih M3 (hq.tr (qfr_p q3.2.1)) q3.2.2
        rw [q3.1]
        refine gX10_totalWith_35 ⟨fun z => ?_, fun z => ?_⟩
        · have hn : bN (lsN N lo2) i = none := by
            cases e : bN (lsN N lo2) i with
            | none => rfl
            | some f => exact absurd (cov_lt.mpr ⟨f, e⟩) (I_nlt.mpr z)
          rw [tot, ifb_n hn] at nx
          rw [nI_1]; exact nx
        · obtain ⟨f, hf⟩ := cov_lt.mp (I_nle.mp z)
          rw [tot, ifb_s hf, ← (cov_s hf).1] at nx
          rw [nI_1]; exact nx
  exact lp 0 (by omega) M1 (qfr_u q.2.1) ⟨q.2.2.1, q.2.2.2.2.1, q.2.2.2.2.2⟩
theorem totM {Ni : ev_Mem} {x : Int32} (h : sdR M N W T lo) (hS : senR M N S) (hl : upto (N.1 1 9 ||| x) (2 ^ 26 - 1)) (hN : me N Ni) :
    Cl LM (d + 6) mX11_totalWith [.ref 0, .int x] Ni (fun r N2 => r = some (.int (tot (lsN N (N.1 1 9 ||| x)) S)) ∧ me N N2) := by
  have h8 := hS.1
  have e1 := hN 1 (by omega)
  have e4 := hN 4 (by omega)
  refine Cl_of rfl (Nat.le_of_ble_eq_true rfl) rfl (gX11_totalWith_0 (d := d + 5) fun N1 en1 => ?_)
  rw [e1] at en1
  generalize el : N.1 1 9 ||| x = l2 at hl en1
  have hsd2 := sd_ls h hl
  have hS2 := sen_ls (l2 := l2) hS
  have m1 : ∀ k, k ≤ 5 → N1.1 k = (lsN N l2).1 k := fun k hk => by
    rw [en1]
    by_cases e : k = 1
    · subst e
      rw [wr_row, e1]; exact wr_row.symm
    · rw [wr_cell e, lsN_c e, hN k hk]
  have hN1 : me (lsN N l2) N1 := m1
  have hsd3 : sdR M N1 W T l2 := by
    refine ⟨hsd2.w24, hsd2.mw, by rw [m1 1 (by omega)]; exact hsd2.nw, fun w hw => by rw [m1 1 (by omega)]; exact hsd2.wr w hw, fun l hl => by rw [m1 1 (by omega)]; exact hsd2.md l hl, by rw [m1 1 (by omega)]; exact hsd2.lo, hsd2.lu, by rw [m1 1 (by omega)]; exact hsd2.da, fun l hl => by rw [m1 1 (by omega)]; exact hsd2.us l hl, hsd2.t4, hsd2.mt, by rw [m1 1 (by omega)]; exact hsd2.nt, by rw [m1 1 (by omega)]; exact hsd2.te, by rw [m1 1 (by omega)]; exact hsd2.ti, fun t ht k hk => lawR_cg (fun _ _ _ => rfl) (m1 4 (by omega)).symm (hsd2.la t ht k hk)⟩
  refine ⟨_, layN (d := d) hsd3, fun zr N2 q => ?_⟩
  rw [q.1]
  refine gX11_totalWith_23 ?_
  have la : laid (lsN N l2) N2 W := fun w hw => by rw [q.2.2 w hw]; exact sfw_1 (m1 1 (by omega)) (m1 4 (by omega))
  have lp : ∀ i, i ≤ S → ∀ N3, me (lsN N l2) N3 → laid (lsN N l2) N3 W → Ev LM (d + 6) mX11_totalWith 28 [some (.ref 0), none, some (.int (Ni.1 1 9)), some (.int (tot (lsN N l2) i)), some (.int (nI i)), none] [] N3 (fun r N2 => r = some (.int (tot (lsN N l2) S)) ∧ me N N2) := by
    refine dn ?_ (fun i hi ih => ?_)
    · intro N3 hq hh
      refine gX11_totalWith_28 (d := d + 5) ⟨fun _ N4 e4' => ⟨rfl, fun k hk => ?_⟩, fun z => absurd ?_ z⟩
      · rw [e4', e1]
        by_cases e : k = 1
        · subst e
          rw [wr_row, hq 1 (by omega)]
          show upd ((lsN N l2).1 1) 9 (N.1 1 9) = N.1 1
          have := congrArg (fun z : ev_Mem => z.1 1) (lsN_l (N := N) (lo := l2) (l2 := N.1 1 9))
          rw [lsN_id] at this
          rw [← this]; exact wr_row.symm
        · rw [wr_cell e, hq k hk, lsN_c e]
      · rw [hq 1 (by omega), hS2.2.2.1]; exact nI_le (Nat.le_refl _) (by omega)
    · intro N3 hq hh
      refine gX11_totalWith_28 (d := d + 5) ⟨fun z => ?_, fun _ => ⟨_, leastH (d := d + 1) hsd2 hS2 hi hq hh, fun zr N4 q3 => ?_⟩⟩
      · rw [hq 1 (by omega), hS2.2.2.1] at z; exact absurd z (nI_ge hi (by omega))
      · have nx := ih N4 (hq.tr q3.1) q3.2.1
        rcases q3.2.2 with ⟨hb, e⟩ | ⟨f, hb, e, -⟩
        · rw [e]
          refine gX11_totalWith_45 ⟨fun z => absurd rfl z, fun _ => ?_⟩
          rw [tot, ifb_n hb] at nx
          rw [nI_1]; exact nx
        · rw [e]
          refine gX11_totalWith_45 ⟨fun _ => ?_, fun z => absurd z (cN_nm (k := 0) hb)⟩
          rw [tot, ifb_s hb] at nx
          rw [nI_1]; exact nx
  exact lp 0 (by omega) N2 (hN1.tr q.2.1) la
def bitI (l : Nat) : Int32 := 1 <<< (nI l &&& 31)
def wst (N : ev_Mem) (S : Nat) : Nat → Int32 × Int32
  | 0 => (-1, -1)
  | n + 1 => if hs (N.1 1 9) (nI n) = true then wst N S n else if tot (lsN N (N.1 1 9 ||| bitI n)) S ≤ (wst N S n).2 then wst N S n else (nI n, tot (lsN N (N.1 1 9 ||| bitI n)) S)
theorem wst_m : ∀ n, ¬ (wst N S n).2 < -1
  | 0 => by show ¬ (-1 : Int32) < -1; decide
  | n + 1 => by
    rw [wst]
    split
    · exact wst_m n
    · split
      · exact wst_m n
      · rename_i z
        have := wst_m n
        rw [I_lt] at this ⊢
        have z := I_nle.mp z
        rw [I_lt] at z
        show ¬ (tot (lsN N (N.1 1 9 ||| bitI n)) S).toInt < _
        omega
theorem op_worst (h : RX B M N) : OP 200 mX10_worst mX11_worst [] B M N := by
  obtain ⟨W, S, T, Wk, Sk, Tk, h1, h2, h3, h4, h5, h6⟩ := id h
  obtain ⟨hsd, hS⟩ := RX_sd h1 h4
  have el : N.1 1 9 = M.1 43 0 := hsd.lo
  have hlu : upto (N.1 1 9) (2 ^ 26 - 1) := by rw [el]; exact hsd.lu
  refine op_ro (v := some (.int (wst N S 26).1)) h ?_ ?_
  · refine Cl_of rfl (Nat.le_of_ble_eq_true rfl) rfl (gX10_worst_0 (d := 199) fun M1 e1 => ?_)
    have lp : ∀ i, i ≤ 26 → ∀ M2, qfr M M2 → (M2.1 86 8 = -1 ∨ heldI M2 N W) → Ev LX 200 mX10_worst 13 [some (.ref 0), some (.int (wst N S i).1), some (.int (wst N S i).2), some (.int (nI i)), none] [] M2 (fun r M2 => r = some (.int (wst N S 26).1) ∧ xq M M2) := by
      refine dn ?_ (fun i hi ih => ?_)
      · intro M2 hq hh
        exact gX10_worst_13 (d := 199) ⟨fun _ => ⟨rfl, xq_q hq⟩, fun z => absurd (nI_le (a := 26) (b := 26) (Nat.le_refl _) (by omega)) z⟩
      · intro M2 hq hh
        rw [wst] at ih
        refine gX10_worst_13 (d := 199) ⟨fun z => absurd z (nI_ge (b := 26) hi (by omega)), fun _ => ?_⟩
        rw [hq.1 43 (by omega), ← el]
        refine ⟨fun z => ?_, fun z => ?_⟩
        · rw [if_pos z] at ih
          rw [nI_1]; exact ih M2 hq hh
        · rw [if_neg (by rw [z]; decide)] at ih
          refine ⟨_, totX (d := 193) (lo2 := N.1 1 9 ||| bitI i) hsd hS (or_up hlu hi) hq hh, fun zr M3 q3 => ?_⟩
          rw [q3.1]
          refine gX10_worst_48 ⟨fun y => ?_, fun y => ?_⟩
          · rw [if_pos y] at ih
            rw [nI_1]; exact ih M3 q3.2.1 (Or.inr q3.2.2)
          · rw [if_neg y] at ih
            rw [nI_1]; exact ih M3 q3.2.1 (Or.inr q3.2.2)
    exact lp 0 (by omega) M1 (qfr_u (by rw [e1]; exact ufr_86 (Or.inr rfl))) (Or.inl (by rw [e1, wr_same]))
  · refine Cl_of rfl (Nat.le_of_ble_eq_true rfl) rfl (gX11_worst_0 ?_)
    have lp : ∀ i, i ≤ 26 → ∀ N2, me N N2 → Ev LM 200 mX11_worst 6 [some (.ref 0), some (.int (wst N S i).1), some (.int (wst N S i).2), some (.int (nI i)), none] [] N2 (fun r N2 => r = some (.int (wst N S 26).1) ∧ pe N N2) := by
      refine dn ?_ (fun i hi ih => ?_)
      · intro N2 hq
        exact gX11_worst_6 (d := 198) ⟨fun _ => ⟨rfl, me_pe hq⟩, fun z => absurd (nI_le (a := 26) (b := 26) (Nat.le_refl _) (by omega)) z⟩
      · intro N2 hq
        have hm := wst_m (N := N) (S := S) i
        rw [wst] at ih
        refine gX11_worst_6 (d := 198) ⟨fun z => absurd z (nI_ge (b := 26) hi (by omega)), fun _ => ?_⟩
        rw [hq 1 (by omega)]
        refine ⟨fun z => ?_, fun z => ?_⟩
        · rw [if_neg (by rw [z]; decide)] at ih
          refine ⟨_, totM (d := 193) (x := bitI i) hsd hS (or_up hlu hi) hq, fun zr N3 q3 => ?_⟩
          rw [q3.1]
          refine gX11_worst_31 ⟨fun y => ?_, fun y => ?_⟩
          · rw [if_neg (I_nle.mpr y)] at ih
            rw [nI_1]; exact ih N3 q3.2
          · rw [if_pos (I_nlt.mp y)] at ih
            rw [nI_1]; exact ih N3 q3.2
        · rw [if_pos z] at ih
          refine gX11_worst_31 ⟨fun y => absurd y hm, fun y => ?_⟩
          rw [nI_1]; exact ih N2 hq
    exact lp 0 (by omega) N me.rf
end
