/-! CALLS: least, sentence, wire, worth, senses, all -/
section
variable {d B : Nat} {M N : ev_Mem} {W T S s f : Nat} {lo : Int32}
theorem secN {N2 : ev_Mem} (h : sdR M N W T lo) (hS : senR M N S) (hs : s < S) (hb : bN N s = some f) (hm : me N N2) (hc : ∀ p, p < lnN N s → N2.1 13 p = nI (hN N s f p)) : Cl LM (d + 4) mX11_secondsIn [.ref 0, .int (nI s)] N2 (ev_R (some (.int (smI (fun p => mS N (nI (hN N s f p))) (lnN N s)))) N2) := by
  obtain ⟨n1, n5, nn, -⟩ := sen_n hS hs
  have h8 := hS.1
  have e1 := hm 1 (by omega)
  have lt := hN_lt hb
  have hW := sd_wN h
  have := kX11_secondsIn (d := d) (N := N2) (s := s) (n := lnN N s) (c := hN N s f) (by omega) n5 (by rw [e1]; exact nn) (fun p hp => ⟨hc p hp, wm_1 e1 (sd_wm h (by rw [← hW]; exact lt p hp))⟩)
  rw [show (fun p => mS N2 (nI (hN N s f p))) = fun p => mS N (nI (hN N s f p)) from funext fun p => mS_1 e1] at this
  exact this
theorem letN {N2 : ev_Mem} (h : sdR M N W T lo) (hS : senR M N S) (hs : s < S) (hb : bN N s = some f) (hm : me N N2) (hc : ∀ p, p < lnN N s → N2.1 13 p = nI (hN N s f p)) : Cl LM (d + 1) mX11_lettersIn [.ref 0, .int (nI s)] N2 (ev_R (some (.int (smI (fun p => aw N (hN N s f p) 3) (lnN N s)))) N2) := by
  obtain ⟨n1, n5, nn, -⟩ := sen_n hS hs
  have h8 := hS.1
  have e1 := hm 1 (by omega)
  have lt := hN_lt hb
  have hW := sd_wN h
  have h24 := h.w24
  have := kX11_lettersIn (d := d) (N := N2) (s := s) (n := lnN N s) (c := hN N s f) (by omega) n5 (by rw [e1]; exact nn) (fun p hp => ⟨hc p hp, by have := lt p hp; omega⟩)
  rw [aw_1 e1] at this
  exact this
theorem penN {N2 : ev_Mem} (h : sdR M N W T lo) (hS : senR M N S) (hs : s < S) (hb : bN N s = some f) (hm : me N N2) (hc : ∀ p, p < lnN N s → N2.1 13 p = nI (hN N s f p)) : Cl LM (d + 1) mX11_penceOf [.ref 0, .int (nI s)] N2 (ev_R (some (.int (smI (fun p => if aw N (hN N s f p) 0 = 2 then 3 else 2) (lnN N s)))) N2) := by
  obtain ⟨n1, n5, nn, -⟩ := sen_n hS hs
  have h8 := hS.1
  have e1 := hm 1 (by omega)
  have lt := hN_lt hb
  have hW := sd_wN h
  have h24 := h.w24
  have := kX11_penceOf (d := d) (N := N2) (s := s) (n := lnN N s) (c := hN N s f) (by omega) n5 (by rw [e1]; exact nn) (fun p hp => ⟨hc p hp, by have := lt p hp; omega⟩)
  rw [aw_1 e1] at this
  exact this
theorem speakNowS (h : sdR M N W T (M.1 43 0)) (hS : senR M N S) (hs : s < S) : Cl LX (d + 6) mX10_speakNow [.ref 0, .int (nI s)] M (fun z M2 => qfr M M2 ∧ spoke N M2 s z) :=
  Cl.mono (speakNowN h hS) (fun z M2 q => ⟨q.1, by
    have h8 := hS.1
    rcases q.2 with ⟨q1, -⟩ | ⟨t, ht, e, q2⟩
    · exact absurd ⟨s, hs, rfl⟩ q1
    · rw [(nI_eq (by omega) (by omega)).mp e]; exact q2⟩)
theorem speakNowX {x : Int32} (h : sdR M N W T (M.1 43 0)) (hS : senR M N S) (hx : ¬ ∃ s, s < S ∧ x = nI s) : Cl LX (d + 6) mX10_speakNow [.ref 0, .int x] M (fun z M2 => qfr M M2 ∧ z = some (.int 0)) :=
  Cl.mono (speakNowN h hS) (fun z M2 q => ⟨q.1, by
    rcases q.2 with ⟨-, q1⟩ | ⟨t, ht, e, -⟩
    · exact q1
    · exact absurd ⟨t, ht, e⟩ hx⟩)
theorem sen_t {x : Int32} (hS : senR M N S) (hx : ∃ s, s < S ∧ x = nI s) : iin x 0 (N.1 1 1 - 1) = true := by
  have := hS.1
  rw [hS.2.2.1]; exact (iin_N (by omega)).mpr hx
theorem sen_f {x : Int32} (hS : senR M N S) (hx : ¬ ∃ s, s < S ∧ x = nI s) : iin x 0 (N.1 1 1 - 1) = false := by
  have := hS.1
  rw [hS.2.2.1, ← Bool.not_eq_true, iin_N (by omega)]; exact hx
/-- what is said of a sentence that can be said -/
def ifb {α : Type} (N : ev_Mem) (s : Nat) (z : α) (g : Nat → α) : α := match bN N s with
  | none => z
  | some f => g f
theorem ifb_n {α : Type} {z : α} {g : Nat → α} (h : bN N s = none) : ifb N s z g = z := by unfold ifb; rw [h]
theorem ifb_s {α : Type} {z : α} {g : Nat → α} (h : bN N s = some f) : ifb N s z g = g f := by unfold ifb; rw [h]
theorem cN_nm {k : Nat} (hb : bN N s = some f) : ¬ nI (cN N s (lnN N s - 1) f) = -1 := by
  have := (bst_lt hb).2
  exact nI_nm1 (Nat.lt_trans this (by decide))
def lev (N : ev_Mem) (s : Nat) (y : Int32) : Int32 := ifb N s (-1) (fun f => if y = 0 then nI (cN N s (lnN N s - 1) f) else if y = 1 then smI (fun p => mS N (nI (hN N s f p))) (lnN N s) else smI (fun p => aw N (hN N s f p) 3) (lnN N s))
theorem leastM {y : Int32} (h : sdR M N W T lo) (hS : senR M N S) (hs : s < S) (hy : iin y 0 2 = true) : Cl LM (d + 8) mX11_least [.ref 0, .int (nI s), .int y] N (fun r N2 => r = some (.int (lev N s y)) ∧ me N N2) := by
  refine Cl_of rfl (Nat.le_of_ble_eq_true rfl) rfl (gX11_least_0 (d := d + 6) ⟨fun z => bb z (sen_t hS ⟨s, hs, rfl⟩), fun _ => ⟨fun _ => ⟨_, saidN (d := d + 1) h hS hs, fun zr N2 q => ?_⟩, fun z => bb z hy⟩⟩)
  obtain ⟨hm, q⟩ := q
  rcases q with ⟨hb, e⟩ | ⟨f, hb, e, hc⟩
  · rw [e]
    refine gX11_least_24 (d := d + 7) ⟨fun _ => ⟨by rw [lev, ifb_n hb], hm⟩, fun z => absurd rfl z⟩
  · rw [e]
    refine gX11_least_24 (d := d + 7) ⟨fun z => absurd z (cN_nm (k := 0) hb), fun _ => ⟨fun y0 => ⟨fun y1 => ⟨_, letN (d := d + 6) h hS hs hb hm hc, fun zr N3 q3 => ?_⟩, fun y1 => ⟨_, secN (d := d + 3) h hS hs hb hm hc, fun zr N3 q3 => ?_⟩⟩, fun y0 => ?_⟩⟩
    · rw [q3.1, q3.2]
      exact gX11_least_56 ⟨by rw [lev, ifb_s hb, if_neg y0, if_neg y1], hm⟩
    · rw [q3.1, q3.2]
      exact gX11_least_48 (gX11_least_56 ⟨by rw [lev, ifb_s hb, if_neg y0, if_pos y1], hm⟩)
    · exact gX11_least_56 ⟨by rw [lev, ifb_s hb, if_pos y0], hm⟩
theorem leastMX {x y : Int32} (hS : senR M N S) (hx : ¬ ((∃ s, s < S ∧ x = nI s) ∧ iin y 0 2 = true)) : Cl LM (d + 8) mX11_least [.ref 0, .int x, .int y] N (fun r N2 => r = some (.int (-1)) ∧ me N N2) := by
  refine Cl_of rfl (Nat.le_of_ble_eq_true rfl) rfl (gX11_least_0 (d := d + 6) ⟨fun _ => ⟨rfl, me.rf⟩, fun z => ⟨fun z2 => ?_, fun _ => ⟨rfl, me.rf⟩⟩⟩)
  have := hS.1
  rw [hS.2.2.1] at z
  exact absurd ⟨(iin_N (by omega)).mp z, z2⟩ hx
theorem I_2g {y : Int32} : iin y 0 2 = true ↔ ¬ y < 0 ∧ ¬ 2 < y := by rw [iin_t, I_nlt, I_nlt]
theorem op_least (h : RX B M N) (x y : Int32) : OP 200 mX10_least mX11_least [.int x, .int y] B M N := by
  obtain ⟨W, S, T, Wk, Sk, Tk, h1, h2, h3, h4, h5, h6⟩ := id h
  obtain ⟨hsd, hS⟩ := RX_sd h1 h4
  by_cases hx : (∃ s, s < S ∧ x = nI s) ∧ iin y 0 2 = true
  · obtain ⟨⟨s, hs, rfl⟩, hy⟩ := hx
    refine op_ro (v := some (.int (lev N s y))) h ?_ (Cl.mono (leastM (d := 192) hsd hS hs hy) (fun r N2 q => ⟨q.1, me_pe q.2⟩))
    obtain ⟨y1, y2⟩ := I_2g.mp hy
    refine Cl_of rfl (Nat.le_of_ble_eq_true rfl) rfl (gX10_least_0 (d := 199) ⟨fun z => absurd z y1, fun _ => ⟨fun z => absurd z y2, fun _ => ⟨_, speakNowS (d := 193) hsd hS hs, fun zr M2 q => ?_⟩⟩⟩)
    obtain ⟨hq, ⟨hb, e⟩ | ⟨f, hb, e, p14, -, -, p15, p16, -⟩⟩ := q
    · rw [e]
      exact gX10_least_14 ⟨fun z => absurd rfl z, fun _ => ⟨by rw [lev, ifb_n hb], xq_q hq⟩⟩
    · rw [e]
      refine gX10_least_14 ⟨fun _ => ⟨fun a => ⟨fun b => ⟨?_, xq_q hq⟩, fun b => ⟨?_, xq_q hq⟩⟩, fun a => ⟨?_, xq_q hq⟩⟩, fun z => absurd z (by decide)⟩
      · rw [lev, ifb_s hb, if_neg a, if_neg b, p16]
      · rw [lev, ifb_s hb, if_neg a, if_pos b, p15]
      · rw [lev, ifb_s hb, if_pos a, p14]
  · refine op_ro (v := some (.int (-1))) h ?_ (Cl.mono (leastMX (d := 192) hS hx) (fun r N2 q => ⟨q.1, me_pe q.2⟩))
    refine Cl_of rfl (Nat.le_of_ble_eq_true rfl) rfl (gX10_least_0 (d := 199) ⟨fun _ => ⟨rfl, xq.rf⟩, fun y1 => ⟨fun _ => ⟨rfl, xq.rf⟩, fun y2 => ?_⟩⟩)
    refine ⟨_, speakNowX (d := 193) hsd hS (fun z => hx ⟨z, I_2g.mpr ⟨y1, y2⟩⟩), fun zr M2 q => ?_⟩
    rw [q.2]
    exact gX10_least_14 ⟨fun z => absurd rfl z, fun _ => ⟨rfl, xq_q q.1⟩⟩
theorem op_worth (h : RX B M N) (x : Int32) : OP 200 mX10_worth mX11_worth [.int x] B M N := by
  obtain ⟨W, S, T, Wk, Sk, Tk, h1, h2, h3, h4, h5, h6⟩ := id h
  obtain ⟨hsd, hS⟩ := RX_sd h1 h4
  by_cases hx : ∃ s, s < S ∧ x = nI s
  · obtain ⟨s, hs, rfl⟩ := hx
    refine op_ro (v := some (.int (lev N s 1))) h ?_ ?_
    · refine Cl_of rfl (Nat.le_of_ble_eq_true rfl) rfl (gX10_worth_0 (d := 199) ⟨_, speakNowS (d := 193) hsd hS hs, fun zr M2 q => ?_⟩)
      obtain ⟨hq, ⟨hb, e⟩ | ⟨f, hb, e, p14, -, -, p15, p16, -⟩⟩ := q
      · rw [e]
        exact gX10_worth_5 ⟨fun _ => ⟨by rw [lev, ifb_n hb], xq_q hq⟩, fun z => absurd rfl z⟩
      · rw [e]
        refine gX10_worth_5 ⟨fun z => absurd z (by decide), fun _ => ⟨?_, xq_q hq⟩⟩
        rw [lev, ifb_s hb, if_neg (by decide), if_pos rfl, p15]
    · refine Cl_of rfl (Nat.le_of_ble_eq_true rfl) rfl (gX11_worth_0 (d := 199) ⟨_, leastM (d := 191) hsd hS hs rfl, fun zr N2 q => ?_⟩)
      rw [q.1]
      exact gX11_worth_6 ⟨rfl, me_pe q.2⟩
  · refine op_ro (v := some (.int (-1))) h ?_ ?_
    · refine Cl_of rfl (Nat.le_of_ble_eq_true rfl) rfl (gX10_worth_0 (d := 199) ⟨_, speakNowX (d := 193) hsd hS hx, fun zr M2 q => ?_⟩)
      rw [q.2]
      exact gX10_worth_5 ⟨fun _ => ⟨rfl, xq_q q.1⟩, fun z => absurd rfl z⟩
    · refine Cl_of rfl (Nat.le_of_ble_eq_true rfl) rfl (gX11_worth_0 (d := 199) ⟨_, leastMX (d := 191) hS (fun z => hx z.1), fun zr N2 q => ?_⟩)
      rw [q.1]
      exact gX11_worth_6 ⟨rfl, me_pe q.2⟩
theorem op_wire (h : RX B M N) (x : Int32) : OP 200 mX10_wire mX11_wire [.int x] B M N := by
  obtain ⟨W, S, T, Wk, Sk, Tk, h1, h2, h3, h4, h5, h6⟩ := id h
  obtain ⟨hsd, hS⟩ := RX_sd h1 h4
  by_cases hx : ∃ s, s < S ∧ x = nI s
  · obtain ⟨s, hs, rfl⟩ := hx
    refine op_ro (v := some (.int (ifb N s (-1) (fun f => smI (fun p => if aw N (hN N s f p) 0 = 2 then 3 else 2) (lnN N s))))) h ?_ ?_
    · refine Cl_of rfl (Nat.le_of_ble_eq_true rfl) rfl (gX10_wire_0 (d := 199) ⟨_, speakNowS (d := 193) hsd hS hs, fun zr M2 q => ?_⟩)
      obtain ⟨hq, ⟨hb, e⟩ | ⟨f, hb, e, p14, -, -, p15, p16, p17⟩⟩ := q
      · rw [e]
        exact gX10_wire_5 ⟨fun _ => ⟨by rw [ifb_n hb], xq_q hq⟩, fun z => absurd rfl z⟩
      · rw [e]
        refine gX10_wire_5 ⟨fun z => absurd z (by decide), fun _ => ⟨?_, xq_q hq⟩⟩
        rw [ifb_s hb, p17]
    · refine Cl_of rfl (Nat.le_of_ble_eq_true rfl) rfl (gX11_wire_0 (d := 198) ⟨fun z => bb z (sen_t hS ⟨s, hs, rfl⟩), fun _ => ⟨_, saidN (d := 193) hsd hS hs, fun zr N2 q => ?_⟩⟩)
      obtain ⟨hm, ⟨hb, e⟩ | ⟨f, hb, e, hc⟩⟩ := q
      · rw [e]
        exact gX11_wire_13 (d := 199) ⟨fun _ => ⟨by rw [ifb_n hb], me_pe hm⟩, fun z => absurd rfl z⟩
      · rw [e]
        refine gX11_wire_13 (d := 199) ⟨fun z => absurd z (cN_nm (k := 0) hb), fun _ => ⟨_, penN (d := 198) hsd hS hs hb hm hc, fun zr N3 q3 => ?_⟩⟩
        rw [q3.1, q3.2]
        exact gX11_wire_22 ⟨by rw [ifb_s hb], me_pe hm⟩
  · refine op_ro (v := some (.int (-1))) h ?_ ?_
    · refine Cl_of rfl (Nat.le_of_ble_eq_true rfl) rfl (gX10_wire_0 (d := 199) ⟨_, speakNowX (d := 193) hsd hS hx, fun zr M2 q => ?_⟩)
      rw [q.2]
      exact gX10_wire_5 ⟨fun _ => ⟨rfl, xq_q q.1⟩, fun z => absurd rfl z⟩
    · exact Cl_of rfl (Nat.le_of_ble_eq_true rfl) rfl (gX11_wire_0 (d := 198) ⟨fun _ => ⟨rfl, pe.rf⟩, fun z => bb z (sen_f hS hx)⟩)
theorem iin_m {y : Int32} {n : Nat} (hn : n < 2 ^ 30) : iin y (-1) (nI n - 1) = true ↔ y = -1 ∨ ∃ t, t < n ∧ y = nI t := by
  constructor
  · intro z
    by_cases q : y = -1
    · exact Or.inl q
    · refine Or.inr ((iin_N (by omega)).mp (iin_t.mpr ⟨?_, (iin_t.mp z).2⟩))
      have := (iin_t.mp z).1
      rw [I_le, I_m1] at this
      rw [I_eq, I_m1] at q
      rw [I_le, I_0]
      omega
  · rintro (rfl | q)
    · refine iin_t.mpr ⟨Int32.le_refl _, ?_⟩
      cases n with
      | zero => exact Int32.le_refl _
      | succ t => rw [nI_pred, I_le, I_m1, nI_toInt (by omega)]; omega
    · have := iin_t.mp ((iin_N (n := n) (by omega)).mpr q)
      refine iin_t.mpr ⟨?_, this.2⟩
      have h0 := this.1
      rw [I_le, I_0] at h0
      rw [I_le, I_m1]
      omega
theorem op_sentence (h : RX B M N) (x y : Int32) : OP 200 mX10_sentence mX11_sentence [.int x, .int y] B M N := by
  obtain ⟨W, S, T, Wk, Sk, Tk, h1, h2, h3, h4, h5, h6⟩ := id h
  obtain ⟨hsd, hS⟩ := RX_sd h1 h4
  by_cases hx : ∃ s, s < S ∧ x = nI s
  · obtain ⟨s, hs, rfl⟩ := hx
    have h8 := hS.1
    obtain ⟨n1, n5, nn, -⟩ := sen_n hS hs
    refine op_ro (v := some (.int (ifb N s (-1) (fun f => if y = -1 then nI (lnN N s) else if iin y (-1) (nI (lnN N s) - 1) = true then nI (hN N s f y.toNatClampNeg) else -1)))) h ?_ ?_
    · refine Cl_of rfl (Nat.le_of_ble_eq_true rfl) rfl (gX10_sentence_0 (d := 199) ⟨_, speakNowS (d := 193) hsd hS hs, fun zr M2 q => ?_⟩)
      obtain ⟨hq, ⟨hb, e⟩ | ⟨f, hb, e, p14, p13, p99, -⟩⟩ := q
      · rw [e]
        exact gX10_sentence_5 ⟨fun _ => ⟨by rw [ifb_n hb], xq_q hq⟩, fun z => absurd rfl z⟩
      · rw [e]
        refine gX10_sentence_5 ⟨fun z => absurd z (by decide), fun _ => ⟨fun a => ⟨?_, xq_q hq⟩, fun a => ⟨fun b => ⟨fun c => ?_, fun c => ⟨?_, xq_q hq⟩⟩, fun b => ⟨?_, xq_q hq⟩⟩⟩⟩
        · rw [ifb_s hb, if_neg (fun z => by rw [z] at a; revert a; decide), if_neg]
          intro z
          exact absurd a (I_nlt.mpr (iin_t.mp z).1)
        · rw [p13] at b
          obtain ⟨j, hj, rfl⟩ := nI_of (x := y) (by
            rw [I_lt, I_m1] at a
            rw [I_eq, I_m1] at c
            rw [I_lt, I_0]
            omega)
          have hjn := (nI_ltI hj (by omega)).mp b
          refine ⟨vp_in_nI (by omega) (by omega), ?_, xq_q hq⟩
          rw [ifb_s hb, if_neg c, if_pos ((iin_m (by omega)).mpr (Or.inr ⟨j, hjn, rfl⟩)), nI_clamp (by omega), p99 j hjn]
        · rw [ifb_s hb, if_pos c, p13]
        · rw [p13] at b
          have c : ¬ y = -1 := fun z => by
            rw [z] at b
            refine b ?_
            rw [I_lt, I_m1, nI_toInt (by omega)]
            omega
          rw [ifb_s hb, if_neg c, if_neg]
          intro z
          obtain ⟨t, ht, rfl⟩ := ((iin_m (by omega)).mp z).resolve_left c
          exact b (nI_lt ht (by omega))
    · refine Cl_of rfl (Nat.le_of_ble_eq_true rfl) rfl (gX11_sentence_0 (d := 198) ⟨fun z => bb z (sen_t hS ⟨s, hs, rfl⟩), fun _ => ⟨i351 (by omega), ?_⟩⟩)
      rw [c351 (by omega), nn]
      refine ⟨fun z => ⟨?_, pe.rf⟩, fun hy => ⟨_, saidN (d := 193) hsd hS hs, fun zr N2 q => ?_⟩⟩
      · unfold ifb
        split
        · rfl
        · dsimp only
          rw [if_neg (fun q => by rw [(iin_m (by omega)).mpr (Or.inl q)] at z; cases z), if_neg (by rw [z]; decide)]
      · obtain ⟨hm, ⟨hb, e⟩ | ⟨f, hb, e, hc⟩⟩ := q
        · rw [e]
          exact gX11_sentence_28 (d := 199) ⟨fun z => absurd rfl z, fun _ => ⟨by rw [ifb_n hb], me_pe hm⟩⟩
        · rw [e]
          refine gX11_sentence_28 (d := 199) ⟨fun _ => ⟨fun c => ?_, fun c => ⟨i351 (by omega), ?_, me_pe hm⟩⟩, fun z => absurd z (cN_nm (k := 0) hb)⟩
          · obtain ⟨t, ht, rfl⟩ := ((iin_m (by omega)).mp hy).resolve_left c
            refine ⟨vp_in_nI (by omega) (by omega), ?_, me_pe hm⟩
            rw [ifb_s hb, if_neg c, if_pos hy, nI_clamp (by omega), hc t ht]
          · rw [ifb_s hb, if_pos c, c351 (by omega), hm 1 (by omega), nn]
  · refine op_ro (v := some (.int (-1))) h ?_ ?_
    · refine Cl_of rfl (Nat.le_of_ble_eq_true rfl) rfl (gX10_sentence_0 (d := 199) ⟨_, speakNowX (d := 193) hsd hS hx, fun zr M2 q => ?_⟩)
      rw [q.2]
      exact gX10_sentence_5 ⟨fun _ => ⟨rfl, xq_q q.1⟩, fun z => absurd rfl z⟩
    · exact Cl_of rfl (Nat.le_of_ble_eq_true rfl) rfl (gX11_sentence_0 (d := 198) ⟨fun _ => ⟨rfl, pe.rf⟩, fun z => bb z (sen_f hS hx)⟩)
def sns (p : Nat → Bool) (g : Nat → Int32) : Nat → Int32
  | 0 => 4095
  | n + 1 => if p n = true then sns p g n &&& ((1 <<< (g n &&& 31)) ^^^ (-1)) else sns p g n
def snv (N : ev_Mem) (n : Nat) : Int32 := sns (fun w => mC N (nI w)) (fun w => aw N w 1) n
theorem kX10_senses (h : sdR M N W T (M.1 43 0)) : Cl LX (d + 3) mX10_senses [.ref 0] M (ev_R (some (.int (snv N W))) M) := by
  have hW := h.w24
  refine Cl_of rfl (Nat.le_of_ble_eq_true rfl) rfl (gX10_senses_0 ?_)
  have lp : ∀ i, i ≤ W → Ev LX (d + 3) mX10_senses 6 [some (.ref 0), some (.int (snv N i)), some (.int (nI i))] [] M (ev_R (some (.int (snv N W))) M) := by
    refine dn ?_ (fun i hi ih => ?_)
    · exact gX10_senses_6 ⟨fun _ => ⟨rfl, rfl⟩, fun z => absurd (by rw [h.mw]; exact nI_le (Nat.le_refl _) (by omega)) z⟩
    · refine gX10_senses_6 ⟨fun z => ?_, fun _ => ⟨sd_wd h hi, ?_⟩⟩
      · rw [h.mw] at z; exact absurd z (nI_ge hi (by omega))
      · rw [sd_xC h hi, nI_1]
        refine ⟨fun z => ?_, fun z => ⟨vp_in_nI (by omega) (by omega), fun v1 e1 => ?_⟩⟩
        · unfold snv at ih; rw [sns, if_neg (by rw [z]; decide)] at ih; exact ih
        · unfold snv at ih; rw [sns, if_pos z] at ih
          rw [nI_clamp (by omega), (h.wr i hi).1.2.2.1] at e1
          rw [e1]; exact ih
  exact lp 0 (by omega)
theorem kX11_senses (h : sdR M N W T lo) : Cl LM (d + 4) mX11_senses [.ref 0] N (ev_R (some (.int (snv N W))) N) := by
  have hW := h.w24
  have md : okMd N := by obtain ⟨_, _, _, _, md, _⟩ := sd_gN h; exact md
  refine Cl_of rfl (Nat.le_of_ble_eq_true rfl) rfl (gX11_senses_0 ?_)
  have lp : ∀ i, i ≤ W → Ev LM (d + 4) mX11_senses 6 [some (.ref 0), some (.int (snv N i)), some (.int (nI i))] [] N (ev_R (some (.int (snv N W))) N) := by
    refine dn ?_ (fun i hi ih => ?_)
    · exact gX11_senses_6 ⟨fun _ => ⟨rfl, rfl⟩, fun z => absurd (by rw [h.nw]; exact nI_le (Nat.le_refl _) (by omega)) z⟩
    · refine gX11_senses_6 ⟨fun z => ?_, fun _ => ⟨sd_wm h hi, md, ?_⟩⟩
      · rw [h.nw] at z; exact absurd z (nI_ge hi (by omega))
      · rw [nI_1]
        refine ⟨fun z => ?_, fun z => ⟨awi1 (by omega), fun v1 e1 => ?_⟩⟩
        · unfold snv at ih; rw [sns, if_neg (by rw [z]; decide)] at ih; exact ih
        · unfold snv at ih; rw [sns, if_pos z] at ih
          rw [aw1 (by omega)] at e1
          rw [e1]; exact ih
  exact lp 0 (by omega)
theorem op_senses (h : RX B M N) : OP 200 mX10_senses mX11_senses [] B M N := by
  obtain ⟨W, S, T, Wk, Sk, Tk, h1, h2, h3, h4, h5, h6⟩ := id h
  obtain ⟨hsd, hS⟩ := RX_sd h1 h4
  exact op_ro (v := some (.int (snv N W))) h (Cl.mono (kX10_senses (d := 197) hsd) (fun r M2 q => ⟨q.1, by rw [q.2]; exact xq.rf⟩)) (Cl.mono (kX11_senses (d := 196) hsd) (fun r M2 q => ⟨q.1, by rw [q.2]; exact pe.rf⟩))
theorem op_all (h : RX B M N) : OP 200 mX10_all mX11_all [] B M N := by
  obtain ⟨W, S, T, Wk, Sk, Tk, h1, h2, h3, h4, h5, h6⟩ := id h
  obtain ⟨hsd, hS⟩ := RX_sd h1 h4
  refine op_ro (v := some (.int (12 - bc (snv N W)))) h ?_ ?_
  · refine Cl_of rfl (Nat.le_of_ble_eq_true rfl) rfl (gX10_all_0 (d := 199) ⟨_, kX10_senses (d := 196) hsd, fun zr M2 q => ?_⟩)
    rw [q.1, q.2]
    exact gX10_all_6 (d := 199) ⟨rfl, xq.rf⟩
  · refine Cl_of rfl (Nat.le_of_ble_eq_true rfl) rfl (gX11_all_0 (d := 199) ⟨_, kX11_senses (d := 195) hsd, fun zr M2 q => ?_⟩)
    rw [q.1, q.2]
    exact gX11_all_6 (d := 199) ⟨rfl, pe.rf⟩
end
