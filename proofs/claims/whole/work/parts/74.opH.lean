/-! CALLS: longer, held, law -/
section
variable {d B : Nat} {M N : ev_Mem} {W T S s f : Nat} {lo : Int32}
theorem subI (a b c : Int32) : a - b - c = a - (b + c) := by
  apply Int32.toBitVec_inj.mp
  simp only [Int32.toBitVec_sub, Int32.toBitVec_add]
  bv_omega
def lgl (N : ev_Mem) (s f : Nat) : Int32 := smI (fun p => aw N (hN N s f p) 3) (lnN N s)
def lgA (N : ev_Mem) : Nat → Int32 × Int32
  | 0 => (0, 0)
  | n + 1 => ifb N n (lgA N n) (fun f => ((lgA N n).1 ||| bitI n, (lgA N n).2 + lgl N n f))
def lgB (N : ev_Mem) (sy : Int32) : Nat → Int32
  | 0 => 0
  | n + 1 => if hs sy (nI n) = true then ifb N n (lgB N sy n) (fun f => lgB N sy n + lgl N n f) else lgB N sy n
theorem up_0 : upto (0 : Int32) (2 ^ 26 - 1) := ⟨0, by omega, rfl⟩
theorem sd_1 {N2 : ev_Mem} (h : sdR M N W T lo) (e1 : N2.1 1 = N.1 1) (e4 : N2.1 4 = N.1 4) : sdR M N2 W T lo :=
  ⟨h.w24, h.mw, by rw [e1]; exact h.nw, fun w hw => by rw [e1]; exact h.wr w hw, fun l hl => by rw [e1]; exact h.md l hl, by rw [e1]; exact h.lo, h.lu, by rw [e1]; exact h.da, fun l hl => by rw [e1]; exact h.us l hl, h.t4, h.mt, by rw [e1]; exact h.nt, by rw [e1]; exact h.te, by rw [e1]; exact h.ti, fun t ht k hk => lawR_cg (fun _ _ _ => rfl) e4.symm (h.la t ht k hk)⟩
theorem op_longer (h : RX B M N) : OP 200 mX10_longer mX11_longer [] B M N := by
  obtain ⟨W, S, T, Wk, Sk, Tk, h1, h2, h3, h4, h5, h6⟩ := id h
  obtain ⟨hsd, hS⟩ := RX_sd h1 h4
  have h8 := hS.1
  have hsd0 := sd_ls (l2 := 0) hsd up_0
  have hS0 := sen_ls (l2 := 0) hS
  refine op_ro (v := some (.int ((lgA N S).2 - lgB (lsN N 0) (lgA N S).1 S))) h ?_ ?_
  · refine Cl_of rfl (Nat.le_of_ble_eq_true rfl) rfl (gX10_longer_0 (d := 199) ⟨_, hearN (d := 194) hsd, fun zr M1 q => ?_⟩)
    rw [q.1]
    refine gX10_longer_4 ?_
    have l2 : ∀ i, i ≤ S → ∀ M2, qfr M M2 → hrd (lsN N 0) M2 W 0 → Ev LX 200 mX10_longer 71 [some (.ref 0), some (.int (lgA N S).1), some (.int (lgA N S).2), some (.int (lgB (lsN N 0) (lgA N S).1 i)), some (.int (nI i))] [] M2 (fun r M2 => r = some (.int ((lgA N S).2 - lgB (lsN N 0) (lgA N S).1 S)) ∧ xq M M2) := by
      refine dn ?_ (fun i hi ih => ?_)
      · intro M2 hq hh
        refine gX10_longer_71 (d := 199) ⟨fun _ => ⟨rfl, xq_q hq⟩, fun z => absurd ?_ z⟩
        rw [hq.1 3 (by omega), hS.2.1]; exact nI_le (Nat.le_refl _) (by omega)
      · intro M2 hq hh
        rw [lgB] at ih
        refine gX10_longer_71 (d := 199) ⟨fun z => ?_, fun _ => ⟨fun z => ?_, fun z => ⟨_, speakH (d := 195) hsd0 hS0 hi (fun k hk => hq.1 k (by omega)) hh, fun zr M3 q3 => ?_⟩⟩⟩
        · rw [hq.1 3 (by omega), hS.2.1] at z; exact absurd z (nI_ge hi (by omega))
        · rw [if_neg (by rw [z]; decide)] at ih
          rw [nI_1]; exact ih M2 hq hh
        · rw [if_pos z] at ih
          have nx := ih M3 (hq.tr (qfr_o q3.1)) q3.2.1
          rcases q3.2.2 with ⟨hb, e⟩ | ⟨f, hb, e, -, -, -, -, p16, -⟩
          · rw [e]
            refine gX10_longer_101 ⟨fun _ => ?_, fun z => absurd rfl z⟩
            rw [ifb_n hb] at nx
            rw [nI_1]; exact nx
          · rw [e]
            refine gX10_longer_101 ⟨fun z => absurd z (by decide), fun _ => ?_⟩
            rw [ifb_s hb] at nx
            rw [nI_1, p16]; exact nx
    have lp : ∀ i, i ≤ S → ∀ M2, qfr M M2 → hrd N M2 W (M.1 43 0) → Ev LX 200 mX10_longer 10 [some (.ref 0), some (.int (lgA N i).1), some (.int (lgA N i).2), some (.int (nI i)), none] [] M2 (fun r M2 => r = some (.int ((lgA N S).2 - lgB (lsN N 0) (lgA N S).1 S)) ∧ xq M M2) := by
      refine dn ?_ (fun i hi ih => ?_)
      · intro M2 hq hh
        have hc : ∀ k, k < 82 → M2.1 k = M.1 k := fun k hk => hq.1 k (by omega)
        have hsd2 := sdR_cg hc hsd0
        refine gX10_longer_10 (d := 198) ⟨fun _ => ⟨sd_okT hsd2, ?_⟩, fun z => absurd ?_ z⟩
        · have et : M2.1 47 3 = (lsN N 0).1 1 3 := hsd2.te
          rw [et]
          refine ⟨_, kX6_suppose (d := 195) hsd2 (Or.inr (held_ls hh.2.1)), fun zr M3 q3 => ?_⟩
          rw [q3.1]
          exact gX10_longer_66 (l2 0 (by omega) M3 (hq.tr (qfr_u q3.2.1)) ⟨q3.2.2.1, q3.2.2.2.2.1, q3.2.2.2.2.2⟩)
        · rw [hq.1 3 (by omega), hS.2.1]; exact nI_le (Nat.le_refl _) (by omega)
      · intro M2 hq hh
        rw [lgA] at ih
        refine gX10_longer_10 (d := 198) ⟨fun z => ?_, fun _ => ⟨_, speakH (d := 195) hsd hS hi (fun k hk => hq.1 k (by omega)) hh, fun zr M3 q3 => ?_⟩⟩
        · rw [hq.1 3 (by omega), hS.2.1] at z; exact absurd z (nI_ge hi (by omega))
        · have nx := ih M3 (hq.tr (qfr_o q3.1)) q3.2.1
          rcases q3.2.2 with ⟨hb, e⟩ | ⟨f, hb, e, -, -, -, -, p16, -⟩
          · rw [e]
            refine gX10_longer_29 ⟨fun _ => ?_, fun z => absurd rfl z⟩
            rw [ifb_n hb] at nx
            rw [nI_1]; exact nx
          · rw [e]
            refine gX10_longer_29 ⟨fun z => absurd z (by decide), fun _ v1 e1 => ?_⟩
            rw [ifb_s hb] at nx
            rw [nI_1, p16, e1]; exact nx
    exact lp 0 (by omega) M1 (qfr_u q.2.1) q.2.2
  · refine Cl_of rfl (Nat.le_of_ble_eq_true rfl) rfl (gX11_longer_0 (d := 199) ⟨_, layN (d := 194) hsd, fun zr N1 q => ?_⟩)
    rw [q.1]
    refine gX11_longer_8 ?_
    have l2 : ∀ i, i ≤ S → ∀ N2, me (lsN N 0) N2 → laid (lsN N 0) N2 W → Ev LM 200 mX11_longer 75 [some (.ref 0), some (.int (lgA N S).1), some (.int ((lgA N S).2 - lgB (lsN N 0) (lgA N S).1 i)), some (.int (N.1 1 9)), some (.int (nI i))] [] N2 (fun r N2 => r = some (.int ((lgA N S).2 - lgB (lsN N 0) (lgA N S).1 S)) ∧ pe N N2) := by
      refine dn ?_ (fun i hi ih => ?_)
      · intro N2 hq hh
        refine gX11_longer_75 (d := 199) ⟨fun _ N3 e3 => ⟨rfl, me_pe (fun k hk => ?_)⟩, fun z => absurd ?_ z⟩
        · rw [e3]
          by_cases e : k = 1
          · subst e
            rw [wr_row, hq 1 (by omega)]
            have := congrArg (fun z : ev_Mem => z.1 1) (lsN_l (N := N) (lo := 0) (l2 := N.1 1 9))
            rw [lsN_id] at this
            rw [← this]; exact wr_row.symm
          · rw [wr_cell e, hq k hk, lsN_c e]
        · rw [hq 1 (by omega), hS0.2.2.1]; exact nI_le (Nat.le_refl _) (by omega)
      · intro N2 hq hh
        rw [lgB] at ih
        refine gX11_longer_75 (d := 199) ⟨fun z => ?_, fun _ => ⟨fun z => ?_, fun z => ⟨_, leastH (d := 195) hsd0 hS0 hi hq hh, fun zr N3 q3 => ?_⟩⟩⟩
        · rw [hq 1 (by omega), hS0.2.2.1] at z; exact absurd z (nI_ge hi (by omega))
        · rw [if_neg (by rw [z]; decide)] at ih
          rw [nI_1]; exact ih N2 hq hh
        · rw [if_pos z] at ih
          have nx := ih N3 (hq.tr q3.1) q3.2.1
          rcases q3.2.2 with ⟨hb, e⟩ | ⟨f, hb, e, hc⟩
          · rw [e]
            refine gX11_longer_101 (d := 199) ⟨fun _ => ?_, fun z => absurd rfl z⟩
            rw [ifb_n hb] at nx
            rw [nI_1]; exact nx
          · rw [e]
            refine gX11_longer_101 (d := 199) ⟨fun z => absurd z (cN_nm (k := 0) hb), fun _ => ⟨_, letN (d := 198) hsd0 hS0 hi hb (hq.tr q3.1) hc, fun zr N4 q4 => ?_⟩⟩
            rw [q4.1, q4.2]
            rw [ifb_s hb] at nx
            refine gX11_longer_112 ?_
            rw [nI_1, subI]; exact nx
    have lp : ∀ i, i ≤ S → ∀ N2, me N N2 → laid N N2 W → Ev LM 200 mX11_longer 10 [some (.ref 0), some (.int (lgA N i).1), some (.int (lgA N i).2), some (.int (nI i)), none] [] N2 (fun r N2 => r = some (.int ((lgA N S).2 - lgB (lsN N 0) (lgA N S).1 S)) ∧ pe N N2) := by
      refine dn ?_ (fun i hi ih => ?_)
      · intro N2 hq hh
        refine gX11_longer_10 (d := 199) ⟨fun _ N3 e3 => ?_, fun z => absurd ?_ z⟩
        · have m3 : me (lsN N 0) N3 := fun k hk => by
            rw [e3]
            by_cases e : k = 1
            · subst e; rw [wr_row, hq 1 (by omega)]; exact wr_row.symm
            · rw [wr_cell e, lsN_c e, hq k hk]
          rw [hq 1 (by omega)]
          refine ⟨_, layN (d := 194) (sd_1 hsd0 (m3 1 (by omega)) (m3 4 (by omega))), fun zr N4 q4 => ?_⟩
          rw [q4.1]
          refine gX11_longer_72 ?_
          have := l2 0 (by omega) N4 (m3.tr q4.2.1) (fun w hw => by rw [q4.2.2 w hw]; exact sfw_1 (m3 1 (by omega)) (m3 4 (by omega)))
          rw [show (lgA N S).2 - lgB (lsN N 0) (lgA N S).1 0 = (lgA N S).2 from Int32.sub_zero _] at this
          exact this
        · rw [hq 1 (by omega), hS.2.2.1]; exact nI_le (Nat.le_refl _) (by omega)
      · intro N2 hq hh
        rw [lgA] at ih
        refine gX11_longer_10 (d := 199) ⟨fun z => ?_, fun _ => ⟨_, leastH (d := 195) hsd hS hi hq hh, fun zr N3 q3 => ?_⟩⟩
        · rw [hq 1 (by omega), hS.2.2.1] at z; exact absurd z (nI_ge hi (by omega))
        · have nx := ih N3 (hq.tr q3.1) q3.2.1
          rcases q3.2.2 with ⟨hb, e⟩ | ⟨f, hb, e, hc⟩
          · rw [e]
            refine gX11_longer_25 (d := 199) ⟨fun z => absurd rfl z, fun _ => ?_⟩
            rw [ifb_n hb] at nx
            rw [nI_1]; exact nx
          · rw [e]
            refine gX11_longer_25 (d := 199) ⟨fun _ v1 e1 => ⟨_, letN (d := 198) hsd hS hi hb (hq.tr q3.1) hc, fun zr N4 q4 => ?_⟩, fun z => absurd z (cN_nm (k := 0) hb)⟩
            rw [q4.1, q4.2]
            rw [ifb_s hb] at nx
            refine gX11_longer_44 ?_
            rw [nI_1, e1]; exact nx
    exact lp 0 (by omega) N1 q.2.1 q.2.2
theorem smI_up {g : Nat → Int32} {b : Nat} : ∀ {n : Nat}, (∀ i, i < n → upto (g i) b) → upto (smI g n) (b * n)
  | 0, _ => ⟨0, by omega, rfl⟩
  | n + 1, h => by
    obtain ⟨x, hx, ex⟩ := smI_up (n := n) (fun i hi => h i (by omega))
    obtain ⟨y, hy, ey⟩ := h n (by omega)
    refine ⟨x + y, ?_, by rw [smI, ex, ey, nI_add]⟩
    rw [Nat.mul_add, Nat.mul_one]; omega
theorem mS_up {w : Nat} (hw24 : w < 24) (h : wm N (nI w)) : upto (mS N (nI w)) 81 := by
  obtain ⟨⟨k, hk, ek⟩, -, -, hH⟩ := wm_kn hw24 h
  unfold mS
  rw [nI_clamp (by omega), ek]
  unfold sec
  split
  · exact ⟨6 * mH N (nI w), by omega, by rw [show (6 : Int32) = nI 6 from rfl, pk_mul]⟩
  · split
    · exact ⟨9 * mH N (nI w), by omega, by rw [show (9 : Int32) = nI 9 from rfl, pk_mul]⟩
    · exact ⟨0, by omega, rfl⟩
def scl (N : ev_Mem) (s f : Nat) : Int32 := smI (fun p => mS N (nI (hN N s f p))) (lnN N s)
theorem scl_up (h : sdR M N W T lo) (hS : senR M N S) (hs : s < S) (hb : bN N s = some f) : upto (scl N s f) 405 := by
  obtain ⟨n1, n5, -⟩ := sen_n hS hs
  have hW := sd_wN h
  have h24 := h.w24
  refine upto_mono (smI_up (b := 81) (fun p hp => ?_)) (by omega)
  have := hN_lt hb p hp
  exact mS_up (by omega) (sd_wm h (by omega))
theorem tv_t {t : Nat} (ht : t < 4) : tv (nI t) = .ref (61 + 5 * t) := by
  unfold tv
  rw [if_neg (nI_pos (by omega)), nI_clamp (by omega)]
theorem noticeV {Mi : ev_Mem} {li : Int32} (h : sdR M N W T (M.1 43 0)) (hM : ∀ k, k < 82 → Mi.1 k = M.1 k) (hli : upto li 1000000) (hto : upto (Mi.1 86 14) 1000000) (hse : upto (Mi.1 86 15) 1000000) :
    Cl LX (d + 4) mX10_noticeOdds [.ref 0, .int li] Mi (fun r M2 => r = some (.int (noN N li (Mi.1 86 14) (Mi.1 86 15))) ∧ lfr Mi M2) := by
  have hi := sdR_cg hM h
  have hT := h.t4
  have e43 : M.1 43 = Mi.1 43 := (hM 43 (by omega)).symm
  refine Cl_of rfl (Nat.le_of_ble_eq_true rfl) rfl (gX10_noticeOdds_0 (d := d + 2) ⟨sd_okT hi, ?_⟩)
  rw [hi.te]
  have hb : upto (Mi.1 43 3) 1000000 ∧ upto (bc (Mi.1 43 0)) 1000000 ∧ upto li 1000000 ∧ upto (Mi.1 86 14) 1000000 ∧ upto (Mi.1 86 15) 1000000 := ⟨by rw [hi.da.1]; exact upto_mono hi.da.2 (by omega), upto_mono (bc_up (by rw [← e43]; exact h.lu)) (by omega), hli, hto, hse⟩
  obtain ⟨u1, u2, u3⟩ := sd_okU hi
  rcases hi.ti with e | ⟨t, ht, e⟩
  · rw [e]
    refine ⟨_, kX1_noticeOddsN (d := d + 1) (N := N) (x := -1) (g := nN (N.1 1 8) (bc (N.1 1 9)) li (Mi.1 86 14) (Mi.1 86 15)) (us := usM (uNs N)) (by decide), fun zr M2 q => ?_⟩
    rw [q.1]
    refine gX10_noticeOdds_33 ⟨?_, q.2⟩
    unfold noN
    rw [e]
  · rw [e, tv_t (by omega)]
    refine ⟨_, kX1_noticeOdds (d := d + 1) (by omega) (hi.la t ht 2 (by omega)) u1 hb, fun zr M2 q => ?_⟩
    rw [q.1]
    refine gX10_noticeOdds_33 ⟨?_, q.2⟩
    unfold noN
    rw [e, hi.da.1, u3, ← e43, h.lo]
def hld (N : ev_Mem) : Nat → Int32 × Int32
  | 0 => (-1, 1000000)
  | n + 1 => ifb N n (hld N n) (fun f => if noN N 0 (nI (cN N n (lnN N n - 1) f)) (scl N n f) < (hld N n).2 then (nI n, noN N 0 (nI (cN N n (lnN N n - 1) f)) (scl N n f)) else hld N n)
theorem hld_m : ∀ n, ¬ 1000000 < (hld N n).2
  | 0 => by show ¬ (1000000 : Int32) < 1000000; decide
  | n + 1 => by
    rw [hld]
    unfold ifb
    split
    · exact hld_m n
    · dsimp only
      split
      · rename_i z
        have := hld_m n
        rw [I_lt] at this z ⊢
        dsimp only
        omega
      · exact hld_m n
theorem noN_1 {N2 : ev_Mem} {a b c : Int32} (e1 : N2.1 1 = N.1 1) (e4 : N2.1 4 = N.1 4) : noN N2 a b c = noN N a b c := by
  unfold noN uNs
  rw [e1, e4]
theorem noticeM {Ni : ev_Mem} {li to se : Int32} (h : sdR M N W T lo) (hm : me N Ni) (hli : upto li 1000000) (hto : upto to 1000000) (hse : upto se 1000000) :
    Cl LM (d + 4) mX11_noticesOf [.ref 0, .int li, .int to, .int se] Ni (fun r N2 => r = some (.int (noN N li to se)) ∧ nfr Ni N2) := by
  have hs := sd_1 h (hm 1 (by omega)) (hm 4 (by omega))
  refine Cl.mono (kX11_noticesOf (d := d) (sd_lawI hs (by omega)) (sd_okU hs).2.1 ⟨upto_mono hs.da.2 (by omega), upto_mono (bc_up (by rw [hs.lo]; exact hs.lu)) (by omega), hli, hto, hse⟩) (fun r N2 q => ⟨?_, q.2⟩)
  rw [q.1, noN_1 (hm 1 (by omega)) (hm 4 (by omega))]
theorem cN_up (hb : bN N s = some f) : upto (nI (cN N s (lnN N s - 1) f)) 1000000 := ⟨_, Nat.le_of_lt (bst_lt hb).2, rfl⟩
theorem op_held (h : RX B M N) : OP 200 mX10_held mX11_held [] B M N := by
  obtain ⟨W, S, T, Wk, Sk, Tk, h1, h2, h3, h4, h5, h6⟩ := id h
  obtain ⟨hsd, hS⟩ := RX_sd h1 h4
  have h8 := hS.1
  have u0 : upto (0 : Int32) 1000000 := ⟨0, by omega, rfl⟩
  refine op_ro (v := some (.int (hld N S).1)) h ?_ ?_
  · refine Cl_of rfl (Nat.le_of_ble_eq_true rfl) rfl (gX10_held_0 (d := 199) ⟨_, hearN (d := 194) hsd, fun zr M1 q => ?_⟩)
    rw [q.1]
    refine gX10_held_4 ?_
    have lp : ∀ i, i ≤ S → ∀ M2, qfr M M2 → hrd N M2 W (M.1 43 0) → Ev LX 200 mX10_held 12 [some (.ref 0), some (.int (hld N i).1), some (.int (hld N i).2), some (.int (nI i)), none] [] M2 (fun r M2 => r = some (.int (hld N S).1) ∧ xq M M2) := by
      refine dn ?_ (fun i hi ih => ?_)
      · intro M2 hq hh
        refine gX10_held_12 (d := 199) ⟨fun _ => ⟨rfl, xq_q hq⟩, fun z => absurd ?_ z⟩
        rw [hq.1 3 (by omega), hS.2.1]; exact nI_le (Nat.le_refl _) (by omega)
      · intro M2 hq hh
        rw [hld] at ih
        unfold scl at ih
        refine gX10_held_12 (d := 199) ⟨fun z => ?_, fun _ => ⟨_, speakH (d := 195) hsd hS hi (fun k hk => hq.1 k (by omega)) hh, fun zr M3 q3 => ?_⟩⟩
        · rw [hq.1 3 (by omega), hS.2.1] at z; exact absurd z (nI_ge hi (by omega))
        · have hq3 := hq.tr (qfr_o q3.1)
          rcases q3.2.2 with ⟨hb, e⟩ | ⟨f, hb, e, p14, -, -, p15, -⟩
          · rw [e]
            refine gX10_held_31 (d := 199) ⟨fun _ => ?_, fun z => absurd rfl z⟩
            rw [ifb_n hb] at ih
            rw [nI_1]; exact ih M3 hq3 q3.2.1
          · rw [e]
            rw [ifb_s hb] at ih
            refine gX10_held_31 (d := 199) ⟨fun z => absurd z (by decide), fun _ => ⟨_, noticeV (d := 195) hsd (fun k hk => hq3.1 k (by omega)) u0 (by rw [p14]; exact cN_up hb) (by rw [p15]; exact upto_mono (scl_up hsd hS hi hb) (by omega)), fun zr M4 q4 => ?_⟩⟩
            have nx := ih M4 (hq3.tr (qfr_l q4.2)) (hrd_l q4.2 q3.2.1)
            rw [p14, p15] at q4
            rw [q4.1]
            refine gX10_held_39 ⟨fun z => ?_, fun z => ?_⟩
            · rw [if_neg (I_nlt.mpr z)] at nx
              rw [nI_1]; exact nx
            · rw [if_pos (I_nle.mp z)] at nx
              rw [nI_1]; exact nx
    exact lp 0 (by omega) M1 (qfr_u q.2.1) q.2.2
  · refine Cl_of rfl (Nat.le_of_ble_eq_true rfl) rfl (gX11_held_0 (d := 199) ⟨_, layN (d := 194) hsd, fun zr N1 q => ?_⟩)
    rw [q.1]
    refine gX11_held_4 ?_
    have lp : ∀ i, i ≤ S → ∀ N2, me N N2 → laid N N2 W → Ev LM 200 mX11_held 12 [some (.ref 0), some (.int (hld N i).1), some (.int (hld N i).2), some (.int (nI i)), none, none] [] N2 (fun r N2 => r = some (.int (hld N S).1) ∧ pe N N2) := by
      refine dn ?_ (fun i hi ih => ?_)
      · intro N2 hq hh
        refine gX11_held_12 (d := 199) ⟨fun _ => ⟨rfl, me_pe hq⟩, fun z => absurd ?_ z⟩
        rw [hq 1 (by omega), hS.2.2.1]; exact nI_le (Nat.le_refl _) (by omega)
      · intro N2 hq hh
        have hm := hld_m (N := N) i
        rw [hld] at ih
        unfold scl at ih
        refine gX11_held_12 (d := 199) ⟨fun z => ?_, fun _ => ⟨_, leastH (d := 195) hsd hS hi hq hh, fun zr N3 q3 => ?_⟩⟩
        · rw [hq 1 (by omega), hS.2.2.1] at z; exact absurd z (nI_ge hi (by omega))
        · have hq3 := hq.tr q3.1
          rcases q3.2.2 with ⟨hb, e⟩ | ⟨f, hb, e, hc⟩
          · rw [e]
            refine gX11_held_27 (d := 199) ⟨fun z => absurd rfl z, fun _ => ⟨fun z => absurd z hm, fun _ => ?_⟩⟩
            rw [ifb_n hb] at ih
            rw [nI_1]; exact ih N3 hq3 q3.2.1
          · rw [e]
            rw [ifb_s hb] at ih
            refine gX11_held_27 (d := 199) ⟨fun _ => ⟨_, secN (d := 195) hsd hS hi hb hq3 hc, fun zr N4 q4 => ?_⟩, fun z => absurd z (cN_nm (k := 0) hb)⟩
            rw [q4.1, q4.2]
            refine gX11_held_50 (d := 199) ⟨_, noticeM (d := 195) hsd hq3 u0 (cN_up hb) (upto_mono (scl_up hsd hS hi hb) (by omega)), fun zr N5 q5 => ?_⟩
            have nx := ih N5 (hq3.tr (me_n q5.2)) (fun w hw => by rw [q5.2.1 11 (by omega) (by omega)]; exact q3.2.1 w hw)
            rw [q5.1]
            refine gX11_held_53 ⟨fun z => ?_, fun z => ?_⟩
            · rw [if_pos z] at nx
              rw [nI_1]; exact nx
            · rw [if_neg z] at nx
              rw [nI_1]; exact nx
    exact lp 0 (by omega) N1 q.2.1 q.2.2
end
