/-! CALLS: now, spare, exact -/
section
variable {d B : Nat} {M N : ev_Mem} {W T S s f : Nat} {lo : Int32}
def nwN (N : ev_Mem) : Nat → Nat → Int32
  | 0 => fun _ => 0
  | n + 1 => ifb N n (nwN N n) (fun f => prN N n f (nwN N n))
theorem nwN_up (h : sdR M N W T lo) (hS : senR M N S) : ∀ n, n ≤ S → upR (nwN N n) (45 * n)
  | 0, _ => fun l _ => ⟨0, by omega, rfl⟩
  | n + 1, hn => by
    have ih := nwN_up h hS n (by omega)
    obtain ⟨-, n5, -⟩ := sen_n hS (s := n) (by omega)
    rw [nwN]
    cases e : bN N n with
    | none => rw [ifb_n e]; exact fun l hl => upto_mono (ih l hl) (by omega)
    | some f =>
      rw [ifb_s e]
      exact fun l hl => upto_mono (sst9_up ih _ (sd_kp h e) l hl) (by omega)
/-- pressing changes the row of presses, and what speaking changes -/
def zfr (M M2 : ev_Mem) : Prop := (∀ k, k < 82 ∨ (99 < k ∧ k ≠ 119) → M2.1 k = M.1 k) ∧ M2.2 = M.2
theorem zfr.rf : zfr M M := ⟨fun _ _ => rfl, rfl⟩
theorem zfr.tr {M1 M2 : ev_Mem} (h : zfr M M1) (k : zfr M1 M2) : zfr M M2 := ⟨fun i hi => (k.1 i hi).trans (h.1 i hi), k.2.trans h.2⟩
theorem zfr_q {M2 : ev_Mem} (h : qfr M M2) : zfr M M2 := ⟨fun k hk => h.1 k (by omega), h.2⟩
theorem xq_z {M2 : ev_Mem} (h : zfr M M2) : xq M M2 := ⟨fun k hk => h.1 k (by omega), fun j _ => by rw [h.1 81 (by omega)], fun k h1 h2 => h.1 k (by omega)⟩
theorem kX10_countPresses (h : sdR M N W T (M.1 43 0)) (hS : senR M N S) : Cl LX (d + 6) mX10_countPresses [.ref 0] M (fun r M2 => r = none ∧ zfr M M2 ∧ eqR (M2.1 119) (nwN N S)) := by
  have h8 := hS.1
  refine Cl_of rfl (Nat.le_of_ble_eq_true rfl) rfl (gX10_countPresses_0 (d := d + 5) ⟨_, kJ7_fill (d := d + 5) (M := M) lx_119 (by omega), fun zr M1 q => ?_⟩)
  rw [q.1]
  have f1 : zfr M M1 := by rw [q.2]; exact ⟨fun k hk => mfl_cell (by omega), rfl⟩
  have c1 : ∀ k, k < 82 → M1.1 k = M.1 k := fun k hk => f1.1 k (by omega)
  have hs1 : sdR M1 N W T (M1.1 43 0) := by rw [c1 43 (by omega)]; exact sdR_cg c1 h
  have r1 : eqR (M1.1 119) (nwN N 0) := fun l hl => by rw [q.2]; exact if_pos ⟨rfl, hl⟩
  refine gX10_countPresses_8 (d := d + 5) ⟨_, hearN (d := d) hs1, fun zr M2 q2 => ?_⟩
  rw [q2.1]
  refine gX10_countPresses_12 ?_
  have lp : ∀ i, i ≤ S → ∀ M2, zfr M M2 → hrd N M2 W (M.1 43 0) → eqR (M2.1 119) (nwN N i) → Ev LX (d + 6) mX10_countPresses 14 [some (.ref 0), some (.int (nI i))] [] M2 (fun r M2 => r = none ∧ zfr M M2 ∧ eqR (M2.1 119) (nwN N S)) := by
    refine dn ?_ (fun i hi ih => ?_)
    · intro M2 hq hh hr
      refine gX10_countPresses_14 (d := d + 5) ⟨fun _ => ⟨rfl, hq, hr⟩, fun z => absurd ?_ z⟩
      rw [hq.1 3 (by omega), hS.2.1]; exact nI_le (Nat.le_refl _) (by omega)
    · intro M2 hq hh hr
      rw [nwN] at ih
      refine gX10_countPresses_14 (d := d + 5) ⟨fun z => ?_, fun _ => ⟨_, speakH (d := d + 1) h hS hi (fun k hk => hq.1 k (by omega)) hh, fun zr M3 q3 => ?_⟩⟩
      · rw [hq.1 3 (by omega), hS.2.1] at z; exact absurd z (nI_ge hi (by omega))
      · have hq3 := hq.tr (zfr_q (qfr_o q3.1))
        have e119 : M3.1 119 = M2.1 119 := q3.1.1 119 (by omega) (by omega)
        rcases q3.2.2 with ⟨hb, e⟩ | ⟨f, hb, e, hsp⟩
        · rw [e]
          refine gX10_countPresses_33 (d := d + 5) ⟨fun _ => ?_, fun z => absurd rfl z⟩
          rw [ifb_n hb] at ih
          rw [nI_1]; exact ih M3 hq3 q3.2.1 (by rw [e119]; exact hr)
        · rw [e]
          rw [ifb_s hb] at ih
          refine gX10_countPresses_33 (d := d + 5) ⟨fun z => absurd z (by decide), fun _ => ⟨_, press119 (d := d + 2) h hb (fun k hk _ => hq3.1 k (by omega)) q3.2.1.1 hsp (sen_n hS hi).2.1, fun zr M4 q4 => ?_⟩⟩
          rw [q4.1]
          refine gX10_countPresses_47 ?_
          rw [nI_1]
          have c4 : ∀ k, k ≠ 119 → M4.1 k = M3.1 k := fun k hk => by rw [q4.2]; exact rowM_n hk
          refine ih M4 (hq3.tr ⟨fun k hk => c4 k (by omega), by rw [q4.2]; rfl⟩) ?_ ?_
          · obtain ⟨k1, k2, k3⟩ := q3.2.1
            refine ⟨by rw [c4 86 (by omega)]; exact k1, ?_, ?_⟩
            · unfold heldI; rw [c4 89 (by omega), c4 90 (by omega), c4 86 (by omega)]; exact k2
            · unfold supO; rw [c4 87 (by omega), c4 88 (by omega)]; exact k3
          · rw [q4.2, rowM_s, e119]
            exact sst9_eq hr _ (sd_kp h hb)
  exact lp 0 (by omega) M2 (f1.tr (zfr_q (qfr_u q2.2.1))) (by have := q2.2.2; rw [c1 43 (by omega)] at this; exact this) (by rw [q2.2.1.1 119 (by omega)]; exact r1)
theorem kX11_layNows (h : sdR M N W T lo) (hS : senR M N S) : Cl LM (d + 6) mX11_layNows [.ref 0] N (fun r N2 => r = none ∧ me N N2 ∧ eqR (N2.1 16) (nwN N S)) := by
  have h8 := hS.1
  have hW := sd_wN h
  have h24 := h.w24
  refine Cl_of rfl (Nat.le_of_ble_eq_true rfl) rfl (gX11_layNows_0 (d := d + 5) ⟨_, layN (d := d) h, fun zr N1 q => ?_⟩)
  rw [q.1]
  refine gX11_layNows_4 ?_
  have lp : ∀ i, i ≤ S → ∀ N2, me N N2 → laid N N2 W → eqR (N2.1 16) (nwN N i) → Ev LM (d + 6) mX11_layNows 27 [some (.ref 0), some (.int (nI i)), none, none, none] [] N2 (fun r N2 => r = none ∧ me N N2 ∧ eqR (N2.1 16) (nwN N S)) := by
    refine dn ?_ (fun i hi ih => ?_)
    · intro N2 hq hl hr
      refine gX11_layNows_27 (d := d + 5) ⟨fun _ => ⟨rfl, hq, hr⟩, fun z => absurd ?_ z⟩
      rw [hq 1 (by omega), hS.2.2.1]; exact nI_le (Nat.le_refl _) (by omega)
    · intro N2 hq hl hr
      have hup := nwN_up h hS i (by omega)
      rw [nwN] at ih
      obtain ⟨n1, n5, nn, -⟩ := sen_n hS hi
      refine gX11_layNows_27 (d := d + 5) ⟨fun z => ?_, fun _ => ⟨_, Cl.mono (leastN (d := d + 1) h hS hi (hq 1 (by omega)) hl) (fun _ _ q => q), fun zr N3 q3 => ?_⟩⟩
      · rw [hq 1 (by omega), hS.2.2.1] at z; exact absurd z (nI_ge hi (by omega))
      · have hq3 := hq.tr (me_o q3.1)
        have hl3 : laid N N3 W := fun w hw => by rw [q3.1.1 11 (by omega) (by omega)]; exact hl w hw
        have e16 : N3.1 16 = N2.1 16 := q3.1.1 16 (by omega) (by omega)
        rcases q3.2 with ⟨hb, e⟩ | ⟨f, hb, e, hc⟩
        · rw [e]
          refine gX11_layNows_42 ⟨fun z => absurd rfl z, fun _ => ?_⟩
          rw [ifb_n hb] at ih
          rw [nI_1]; exact ih N3 hq3 hl3 (by rw [e16]; exact hr)
        · rw [e]
          rw [ifb_s hb] at ih
          refine gX11_layNows_42 ⟨fun _ => ?_, fun z => absurd z (cN_nm (k := 0) hb)⟩
          have kp := sd_kp h hb
          have l2 : ∀ p, p ≤ lnN N i → ∀ N4, me N N4 → laid N N4 W → (∀ p, p < lnN N i → N4.1 13 p = nI (hN N i f p)) → eqR (N4.1 16) (sst9 (fun p => kyN N (hN N i f p)) (fun p => lnW N (hN N i f p)) (nwN N i) p) → Ev LM (d + 6) mX11_layNows 51 [some (.ref 0), some (.int (nI i)), some (.int (nI p)), none, none] [] N4 (fun r N2 => r = none ∧ me N N2 ∧ eqR (N2.1 16) (nwN N S)) := by
            refine dn ?_ (fun p hp ih2 => ?_)
            · intro N4 hq4 hl4 hc4 hr4
              refine gX11_layNows_51 (d := d + 5) ⟨i351 (by omega), ?_⟩
              rw [c351 (by omega), hq4 1 (by omega), nn]
              refine ⟨fun _ => ?_, fun z => absurd (nI_le (Nat.le_refl _) (by omega)) z⟩
              rw [nI_1]; exact ih N4 hq4 hl4 hr4
            · intro N4 hq4 hl4 hc4 hr4
              refine gX11_layNows_51 (d := d + 5) ⟨i351 (by omega), ?_⟩
              rw [c351 (by omega), hq4 1 (by omega), nn]
              refine ⟨fun z => absurd z (nI_ge hp (by omega)), fun _ => ?_⟩
              have hwW := hN_lt hb p hp
              rw [hW] at hwW
              have sup := sst9_up hup p (fun p' hp' => kp p' (by omega))
              have kpp := kp p hp
              have hcp := hc4 p hp
              rw [sst9] at ih2
              generalize sst9 (fun p => kyN N (hN N i f p)) (fun p => lnW N (hN N i f p)) (nwN N i) p = u at ih2 hr4 sup
              generalize ew : hN N i f p = w at hwW ih2 kpp
              obtain ⟨l1, l9, l3, l29, ll⟩ := sd_ln h hwW
              have l4 : ∀ j, j ≤ lnW N w → ∀ N5, me N N5 → laid N N5 W → (∀ p, p < lnN N i → N5.1 13 p = nI (hN N i f p)) → eqR (N5.1 16) (wst9 (kyN N w) u j) → Ev LM (d + 6) mX11_layNows 62 [some (.ref 0), some (.int (nI i)), some (.int (nI p)), some (.int (nI j)), none] [] N5 (fun r N2 => r = none ∧ me N N2 ∧ eqR (N2.1 16) (nwN N S)) := by
                refine dn ?_ (fun j hj ih3 => ?_)
                · intro N5 hq5 hl5 hc5 hr5
                  refine gX11_layNows_62 (d := d + 5) ⟨vp_in_nI (by omega) (by omega), ?_⟩
                  rw [nI_clamp (by omega), hc5 p hp, ew, aw3 (by omega), aw_1 (hq5 1 (by omega)), l3]
                  refine ⟨awi3 (by omega), fun _ => ?_, fun z => absurd (nI_le (Nat.le_refl _) (by omega)) z⟩
                  rw [nI_1]; exact ih2 N5 hq5 hl5 hc5 hr5
                · intro N5 hq5 hl5 hc5 hr5
                  obtain ⟨e5, l, hl26, el⟩ := ll j hj
                  refine gX11_layNows_62 (d := d + 5) ⟨vp_in_nI (by omega) (by omega), ?_⟩
                  rw [nI_clamp (by omega), hc5 p hp, ew, aw3 (by omega), aw4 (by omega) (by omega), aw_1 (hq5 1 (by omega)), l3]
                  refine ⟨awi3 (by omega), fun z => absurd z (nI_ge hj (by omega)), fun _ => ⟨vp_in_nI (by omega) (by omega), vp_in_nI (by omega) (by omega), awi4 (by omega) (by omega), ?_⟩⟩
                  rw [el]
                  refine ⟨_, kX11_keyFor (d := d + 3) (N := N5) (w := w) (l := l) (by omega) (by omega), fun zr N6 q6 => ?_⟩
                  have ek : kyf (aw N5 w 0) (fun l => N5.1 1 (399 + 2 * l)) (N5.1 1 9) (nI l) = kyN N w j := by
                    unfold kyN
                    rw [el, aw_1 (hq5 1 (by omega)), hq5 1 (by omega)]
                  rw [ek] at q6
                  rw [q6.1, q6.2]
                  have kk := kpp.2 j hj
                  have wup := wst9_up sup j (fun i hi => kpp.2 i (by omega))
                  rw [wst9] at ih3
                  refine gX11_layNows_100 ⟨fun z => ?_, fun z => ?_⟩
                  · unfold kst9 at ih3
                    rw [if_pos z] at ih3
                    rw [nI_1]; exact ih3 N5 hq5 hl5 hc5 hr5
                  · obtain ⟨t, ht, et⟩ := kk.resolve_left z
                    rw [et] at ih3 ⊢
                    rw [kst9_lt wup (by omega) ht] at ih3
                    rw [nI_clamp (by omega)]
                    refine ⟨vp_in_nI ht (by omega), vp_in_nI ht (by omega), fun N7 e7 => ?_⟩
                    rw [nI_1]
                    refine ih3 N7 (fun k hk => by rw [e7, wr_cell (by omega)]; exact hq5 k hk) (fun w hw => by rw [e7, wr_cell (by omega)]; exact hl5 w hw) (fun p hp => by rw [e7, wr_cell (by omega)]; exact hc5 p hp) (fun a ha => ?_)
                    rw [e7, wr_row, hr5 t ht]
                    by_cases e : a = t
                    · rw [e, upd_eq, upd_eq]
                    · rw [upd_ne e, upd_ne e]; exact hr5 a ha
              exact l4 0 (by omega) N4 hq4 hl4 hc4 hr4
          exact l2 0 (by omega) N3 hq3 hl3 hc (by rw [e16]; exact hr)
  have l0 : ∀ i, i ≤ 26 → ∀ N2, me N N2 → laid N N2 W → (∀ l, l < i → N2.1 16 l = 0) → Ev LM (d + 6) mX11_layNows 6 [some (.ref 0), some (.int (nI i)), none, none, none] [] N2 (fun r N2 => r = none ∧ me N N2 ∧ eqR (N2.1 16) (nwN N S)) := by
    refine dn ?_ (fun i hi ih => ?_)
    · intro N2 hq hl hz
      exact gX11_layNows_6 ⟨fun _ => lp 0 (by omega) N2 hq hl hz, fun z => absurd (nI_le (a := 26) (b := 26) (Nat.le_refl _) (by omega)) z⟩
    · intro N2 hq hl hz
      refine gX11_layNows_6 ⟨fun z => absurd z (nI_ge (b := 26) hi (by omega)), fun _ => ⟨vp_in_nI hi (by omega), fun N3 e3 => ?_⟩⟩
      rw [nI_clamp (by omega)] at e3
      rw [nI_1]
      refine ih N3 (fun k hk => by rw [e3, wr_cell (by omega)]; exact hq k hk) (fun w hw => by rw [e3, wr_cell (by omega)]; exact hl w hw) (fun l hl => ?_)
      rw [e3]
      by_cases e : l = i
      · rw [e, wr_same]
      · rw [wr_ne (by omega)]; exact hz l (by omega)
  exact l0 0 (by omega) N1 q.2.1 q.2.2 (fun l hl => absurd hl (by omega))
theorem op_now (h : RX B M N) (x : Int32) : OP 200 mX10_now mX11_now [.int x] B M N := by
  obtain ⟨W, S, T, Wk, Sk, Tk, h1, h2, h3, h4, h5, h6⟩ := id h
  obtain ⟨hsd, hS⟩ := RX_sd h1 h4
  cases z : iin x 0 25 with
  | false =>
    refine op_ro (v := some (.int (-1))) h ?_ ?_
    · exact Cl_of rfl (Nat.le_of_ble_eq_true rfl) rfl (gX10_now_0 (d := 199) ⟨fun y => bb z y, fun _ => ⟨rfl, xq.rf⟩⟩)
    · exact Cl_of rfl (Nat.le_of_ble_eq_true rfl) rfl (gX11_now_0 (d := 198) ⟨fun y => bb z y, fun _ => ⟨rfl, pe.rf⟩⟩)
  | true =>
    obtain ⟨l, hl, rfl⟩ := (iin_lit 25 (by omega)).mp z
    refine op_ro (v := some (.int (nwN N S l))) h ?_ ?_
    · refine Cl_of rfl (Nat.le_of_ble_eq_true rfl) rfl (gX10_now_0 (d := 199) ⟨fun _ => ⟨_, kX10_countPresses (d := 193) hsd hS, fun zr M2 q => ?_⟩, fun y => bb z y⟩)
      rw [q.1]
      refine gX10_now_13 ⟨vp_in_nI (by omega) (by omega), ?_, xq_z q.2.1⟩
      rw [nI_clamp (by omega), q.2.2 l (by omega)]
    · refine Cl_of rfl (Nat.le_of_ble_eq_true rfl) rfl (gX11_now_0 (d := 198) ⟨fun _ => ⟨_, kX11_layNows (d := 193) hsd hS, fun zr M2 q => ?_⟩, fun y => bb z y⟩)
      rw [q.1]
      refine gX11_now_13 ⟨vp_in_nI (by omega) (by omega), ?_, me_pe q.2.1⟩
      rw [nI_clamp (by omega), q.2.2 l (by omega)]
/-- whether key k goes ahead of l -/
def ahp (u : Nat → Int32) (lo : Int32) (l k : Nat) : Bool := (decide (u l < u k) || (decide (u k = u l) && decide (k < l))) && !hs lo (nI k)
def ahd (u : Nat → Int32) (lo : Int32) (l n : Nat) : Nat := fa_cnt (ahp u lo l) n
theorem ahd_t {u : Nat → Int32} {l n : Nat} (h : ahp u lo l n = true) : ahd u lo l (n + 1) = ahd u lo l n + 1 := fa_cnt_yes h
theorem ahd_f {u : Nat → Int32} {l n : Nat} (h : ahp u lo l n = false) : ahd u lo l (n + 1) = ahd u lo l n := fa_cnt_no h
def kor (u : Nat → Int32) (lo : Int32) (r : Int32) : Nat → Nat → Int32
  | _, 0 => -1
  | i, k + 1 => if hs lo (nI i) = false ∧ nI (ahd u lo i 26) = r then nI i else kor u lo r (i + 1) k
theorem ahp_cg {u v : Nat → Int32} {l k : Nat} (h : eqR u v) (hl : l < 26) (hk : k < 26) : ahp u lo l k = ahp v lo l k := by unfold ahp; rw [h l hl, h k hk]
theorem ahd_cg {u v : Nat → Int32} {l : Nat} (h : eqR u v) (hl : l < 26) : ahd u lo l 26 = ahd v lo l 26 := fa_cnt_cong (fun k hk => ahp_cg h hl hk)
theorem kor_cg {u v : Nat → Int32} {r : Int32} (h : eqR u v) : ∀ k i, i + k = 26 → kor u lo r i k = kor v lo r i k
  | 0, _, _ => rfl
  | k + 1, i, e => by rw [kor, kor, ahd_cg h (by omega), kor_cg h k (i + 1) (by omega)]
theorem kX10_keysAheadOf {l : Nat} (hl : l < 26) : Cl LX (d + 1) mX10_keysAheadOf [.ref 0, .int (nI l)] M (ev_R (some (.int (nI (ahd (M.1 119) (M.1 43 0) l 26)))) M) := by
  refine Cl_of rfl (Nat.le_of_ble_eq_true rfl) rfl (gX10_keysAheadOf_0 ?_)
  have lp : ∀ k, k ≤ 26 → Ev LX (d + 1) mX10_keysAheadOf 4 [some (.ref 0), some (.int (nI l)), some (.int (nI (ahd (M.1 119) (M.1 43 0) l k))), some (.int (nI k)), none] [] M (ev_R (some (.int (nI (ahd (M.1 119) (M.1 43 0) l 26)))) M) := by
    refine dn ?_ (fun k hk ih => ?_)
    · exact gX10_keysAheadOf_4 ⟨fun _ => ⟨rfl, rfl⟩, fun z => absurd (nI_le (a := 26) (b := 26) (Nat.le_refl _) (by omega)) z⟩
    · have tt : ahp (M.1 119) (M.1 43 0) l k = true → Ev LX (d + 1) mX10_keysAheadOf 4 [some (.ref 0), some (.int (nI l)), some (.int (nI (ahd (M.1 119) (M.1 43 0) l k) + 1)), some (.int (nI k + 1)), none] [] M (ev_R (some (.int (nI (ahd (M.1 119) (M.1 43 0) l 26)))) M) := fun q => by
        rw [ahd_t q] at ih; rw [nI_1, nI_1]; exact ih
      have ff : ahp (M.1 119) (M.1 43 0) l k = false → Ev LX (d + 1) mX10_keysAheadOf 4 [some (.ref 0), some (.int (nI l)), some (.int (nI (ahd (M.1 119) (M.1 43 0) l k))), some (.int (nI k + 1)), none] [] M (ev_R (some (.int (nI (ahd (M.1 119) (M.1 43 0) l 26)))) M) := fun q => by
        rw [ahd_f q] at ih; rw [nI_1]; exact ih
      refine gX10_keysAheadOf_4 ⟨fun z => absurd z (nI_ge (b := 26) hk (by omega)), fun _ => ⟨vp_in_nI hk (by omega), vp_in_nI hl (by omega), ?_⟩⟩
      rw [nI_clamp (by omega), nI_clamp (by omega)]
      refine ⟨fun a => ⟨fun b => ff ?_, fun b => tt ?_⟩, fun a => ⟨vp_in_nI hk (by omega), vp_in_nI hl (by omega), fun b => ff ?_, fun b => ⟨fun c => ff ?_, fun c => ⟨fun e => ff ?_, fun e => tt ?_⟩⟩⟩⟩
      · unfold ahp; rw [b, Bool.not_true, Bool.and_false]
      · unfold ahp; rw [b, decide_eq_true a]; rfl
      · unfold ahp; rw [decide_eq_false a, decide_eq_false b]; rfl
      · unfold ahp; rw [decide_eq_false a, decide_eq_false (p := k < l) (by have := (nI_leI (by omega) (by omega)).mp c; omega), Bool.and_false]; rfl
      · unfold ahp; rw [e, Bool.not_true, Bool.and_false]
      · have kl : k < l := by
          rcases Nat.lt_or_ge k l with q | q
          · exact q
          · exact absurd (nI_le q (by omega)) c
        unfold ahp; rw [e, decide_eq_false a, decide_eq_true b, decide_eq_true kl]; rfl
  exact lp 0 (by omega)
theorem kX10_keyOfRank {r : Int32} : Cl LX (d + 2) mX10_keyOfRank [.ref 0, .int r] M (ev_R (some (.int (kor (M.1 119) (M.1 43 0) r 0 26))) M) := by
  refine Cl_of rfl (Nat.le_of_ble_eq_true rfl) rfl (gX10_keyOfRank_0 ?_)
  have lp : ∀ k i, i + k = 26 → Ev LX (d + 2) mX10_keyOfRank 2 [some (.ref 0), some (.int r), some (.int (nI i))] [] M (ev_R (some (.int (kor (M.1 119) (M.1 43 0) r i k))) M) := by
    intro k
    induction k with
    | zero =>
      intro i hi
      exact gX10_keyOfRank_2 (d := d + 1) ⟨fun _ => ⟨rfl, rfl⟩, fun z => absurd (nI_le (a := 26) (by omega) (by omega)) z⟩
    | succ k ih =>
      intro i hi
      have ih := ih (i + 1) (by omega)
      rw [kor]
      refine gX10_keyOfRank_2 (d := d + 1) ⟨fun z => absurd z (nI_ge (b := 26) (by omega) (by omega)), fun _ => ⟨fun z => ?_, fun z => ⟨_, kX10_keysAheadOf (d := d) (by omega), fun zr M2 q => ?_⟩⟩⟩
      · rw [if_neg (by rw [z]; exact fun q => by cases q.1), nI_1]; exact ih
      · rw [q.1, q.2]
        refine gX10_keyOfRank_27 ⟨fun y => ?_, fun y => ?_⟩
        · rw [if_neg (fun q => y q.2), nI_1]; exact ih
        · rw [if_pos ⟨z, y⟩]; exact ⟨rfl, rfl⟩
  exact lp 26 0 (by omega)
theorem op_exact (h : RX B M N) (x : Int32) : OP 200 mX10_exact mX11_exact [.int x] B M N := by
  obtain ⟨W, S, T, Wk, Sk, Tk, h1, h2, h3, h4, h5, h6⟩ := id h
  obtain ⟨hsd, hS⟩ := RX_sd h1 h4
  obtain ⟨b, hb, eb⟩ := bc_up hsd.lu
  have el : N.1 1 9 = M.1 43 0 := hsd.lo
  have eq1 : ∀ y : Int32, (0 ≤ y ∧ y ≤ 26 - bc (M.1 43 0) - 1) ↔ (¬ y < 0 ∧ y < 26 - bc (M.1 43 0)) := by
    intro y
    rw [eb, I_nlt]
    have e26 : (26 - nI b : Int32).toInt = 26 - (b : Int) := pk_sub_toInt (a := 26) (by omega) (by omega)
    have e25 : (26 - nI b - 1 : Int32) = nI 25 - nI b := by
      rw [subI, show nI b + 1 = 1 + nI b from by rw [show (1 : Int32) = nI 1 from rfl, nI_add, nI_add, Nat.add_comm], ← subI]; rfl
    have e25i : (nI 25 - nI b : Int32).toInt = 25 - (b : Int) := pk_sub_toInt (a := 25) (by omega) (by omega)
    rw [e25, I_le, I_le, I_lt, I_0, e26, e25i]
    omega
  cases z : iin x 0 (26 - bc (M.1 43 0) - 1) with
  | false =>
    refine op_ro (v := some (.int (-1))) h ?_ ?_
    · refine Cl_of rfl (Nat.le_of_ble_eq_true rfl) rfl (gX10_exact_0 (d := 199) ⟨fun _ => ⟨rfl, xq.rf⟩, fun a => ⟨fun b => ?_, fun _ => ⟨rfl, xq.rf⟩⟩⟩)
      exact absurd ((eq1 x).mpr ⟨a, b⟩) (iin_f.mp z)
    · refine Cl_of rfl (Nat.le_of_ble_eq_true rfl) rfl (gX11_exact_0 (d := 199) ⟨fun y => ?_, fun _ => ⟨rfl, pe.rf⟩⟩)
      rw [el] at y
      exact bb z y
  | true =>
    obtain ⟨a1, a2⟩ := (eq1 x).mp (iin_t.mp z)
    refine op_ro (v := some (.int (kor (nwN N S) (M.1 43 0) x 0 26))) h ?_ ?_
    · refine Cl_of rfl (Nat.le_of_ble_eq_true rfl) rfl (gX10_exact_0 (d := 199) ⟨fun y => absurd y a1, fun _ => ⟨fun _ => ⟨_, kX10_countPresses (d := 193) hsd hS, fun zr M2 q => ?_⟩, fun y => absurd a2 y⟩⟩)
      rw [q.1]
      refine gX10_exact_27 (d := 199) ⟨_, kX10_keyOfRank (d := 197), fun zr M3 q3 => ?_⟩
      rw [q3.1]
      refine gX10_exact_32 ⟨?_, by rw [q3.2]; exact xq_z q.2.1⟩
      rw [q.2.1.1 43 (by omega), kor_cg q.2.2 26 0 (by omega)]
    · refine Cl_of rfl (Nat.le_of_ble_eq_true rfl) rfl (gX11_exact_0 (d := 199) ⟨fun _ => ⟨_, kX11_layNows (d := 193) hsd hS, fun zr N1 q => ?_⟩, fun y => by rw [el] at y; exact bb z y⟩)
      rw [q.1]
      refine gX11_exact_29 ?_
      have e9 : N1.1 1 9 = M.1 43 0 := by rw [q.2.1 1 (by omega)]; exact el
      have hp := me_pe q.2.1
      rw [← kor_cg q.2.2 26 0 (by omega)]
      have lp : ∀ k i, i + k = 26 → Ev LM 200 mX11_exact 31 [some (.ref 0), some (.int x), some (.int (nI i)), none, none] [] N1 (fun r N2 => r = some (.int (kor (N1.1 16) (M.1 43 0) x i k)) ∧ pe N N2) := by
        intro k
        induction k with
        | zero =>
          intro i hi
          exact gX11_exact_31 ⟨fun _ => ⟨rfl, hp⟩, fun z => absurd (nI_le (a := 26) (by omega) (by omega)) z⟩
        | succ k ih =>
          intro i hi
          have ih := ih (i + 1) (by omega)
          rw [kor]
          refine gX11_exact_31 ⟨fun z => absurd z (nI_ge (b := 26) (by omega) (by omega)), fun _ => ?_⟩
          have lq : ∀ j, j ≤ 26 → Ev LM 200 mX11_exact 42 [some (.ref 0), some (.int x), some (.int (nI i)), some (.int (nI (ahd (N1.1 16) (M.1 43 0) i j))), some (.int (nI j))] [] N1 (fun r N2 => r = some (.int (if hs (M.1 43 0) (nI i) = false ∧ nI (ahd (N1.1 16) (M.1 43 0) i 26) = x then nI i else kor (N1.1 16) (M.1 43 0) x (i + 1) k)) ∧ pe N N2) := by
            refine dn ?_ (fun j hj ih2 => ?_)
            · refine gX11_exact_42 (d := 198) ⟨fun _ => ?_, fun z => absurd (nI_le (a := 26) (b := 26) (Nat.le_refl _) (by omega)) z⟩
              rw [e9]
              refine ⟨fun a => ?_, fun a => ⟨fun b => ?_, fun b => ⟨?_, hp⟩⟩⟩
              · rw [if_neg (by rw [a]; exact fun q => by cases q.1), nI_1]; exact ih
              · rw [if_neg (fun q => b q.2), nI_1]; exact ih
              · rw [if_pos ⟨a, b⟩]
            · have z0 : ∀ y : Nat, nI y + 0 = nI y := fun y => by rw [show (0 : Int32) = nI 0 from rfl, nI_add, Nat.add_zero]
              have tt : ahp (N1.1 16) (M.1 43 0) i j = true → Ev LM 200 mX11_exact 42 [some (.ref 0), some (.int x), some (.int (nI i)), some (.int (nI (ahd (N1.1 16) (M.1 43 0) i j) + 1)), some (.int (nI j + 1))] [] N1 (fun r N2 => r = some (.int (if hs (M.1 43 0) (nI i) = false ∧ nI (ahd (N1.1 16) (M.1 43 0) i 26) = x then nI i else kor (N1.1 16) (M.1 43 0) x (i + 1) k)) ∧ pe N N2) := fun q => by
                rw [ahd_t q] at ih2; rw [nI_1, nI_1]; exact ih2
              have ff : ahp (N1.1 16) (M.1 43 0) i j = false → Ev LM 200 mX11_exact 42 [some (.ref 0), some (.int x), some (.int (nI i)), some (.int (nI (ahd (N1.1 16) (M.1 43 0) i j) + 0)), some (.int (nI j + 1))] [] N1 (fun r N2 => r = some (.int (if hs (M.1 43 0) (nI i) = false ∧ nI (ahd (N1.1 16) (M.1 43 0) i 26) = x then nI i else kor (N1.1 16) (M.1 43 0) x (i + 1) k)) ∧ pe N N2) := fun q => by
                rw [ahd_f q] at ih2; rw [nI_1, z0]; exact ih2
              refine gX11_exact_42 (d := 198) ⟨fun z => absurd z (nI_ge (b := 26) hj (by omega)), fun _ => ?_⟩
              rw [e9, nI_clamp (by omega), nI_clamp (by omega)]
              refine ⟨fun a => ff ?_, fun a => ⟨vp_in_nI hj (by omega), vp_in_nI (by omega) (by omega), fun b => tt ?_, fun b => ⟨vp_in_nI hj (by omega), vp_in_nI (by omega) (by omega), fun c => ff ?_, fun c => ⟨fun e => ff ?_, fun e => tt ?_⟩⟩⟩⟩
              · unfold ahp; rw [a, Bool.not_true, Bool.and_false]
              · unfold ahp; rw [a, decide_eq_true b]; rfl
              · unfold ahp; rw [decide_eq_false b, decide_eq_false c]; rfl
              · unfold ahp; rw [decide_eq_false b, decide_eq_false (p := j < i) (by have := (nI_leI (by omega) (by omega)).mp e; omega), Bool.and_false]; rfl
              · have ji : j < i := by
                  rcases Nat.lt_or_ge j i with q | q
                  · exact q
                  · exact absurd (nI_le q (by omega)) e
                unfold ahp; rw [a, decide_eq_false b, decide_eq_true c, decide_eq_true ji]; rfl
          exact lq 0 (by omega)
      exact lp 26 0 (by omega)
end
