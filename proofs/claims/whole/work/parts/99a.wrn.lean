/-! a sentence is written down: the model's writeNow, the class's typeSpoken -/
section
variable {d B : Nat} {M N : ev_Mem} {W T S s f : Nat} {lo : Int32}
/-- rows that tell the same words, sentences, made letters and lost keys -/
def wdf (a a2 : Nat → Int32) : Prop := ∀ i, i = 9 ∨ (39 ≤ i ∧ i < 525) → a2 i = a i
theorem aw_w {N2 : ev_Mem} {w g : Nat} (h : wdf (N.1 1) (N2.1 1)) (hw : w < 24) (hg : g ≤ 12) : aw N2 w g = aw N w g := h _ (by omega)
theorem wm_w {N2 : ev_Mem} {w : Nat} (h : wdf (N.1 1) (N2.1 1)) (k : wm N (nI w)) : wm N2 (nI w) := by
  obtain ⟨v, n, e, hv, hn, k3, k4, k0, k1, k2⟩ := k
  refine ⟨v, n, e, hv, hn, by rw [aw_w h hv (by omega)]; exact k3, fun i hi => by rw [aw_w h hv (by omega)]; exact k4 i hi, by rw [aw_w h hv (by omega)]; exact k0, by rw [aw_w h hv (by omega)]; exact k1, by rw [aw_w h hv (by omega)]; exact k2⟩
theorem mS_w {N2 : ev_Mem} {w : Nat} (h : wdf (N.1 1) (N2.1 1)) (hw : w < 24) (k : wm N (nI w)) : mS N2 (nI w) = mS N (nI w) := by
  obtain ⟨v, n, e, hv, hn, k3, k4, -⟩ := k
  have : w = v := (nI_eq (by omega) (by omega)).mp e
  subst this
  unfold mS mH
  rw [nI_clamp (by omega), aw_w h hv (by omega), aw_w h hv (by omega), k3, nI_clamp (by omega), h 9 (by omega), hol_cong (fun i hi => aw_w h hv (by omega))]
theorem bnd_nI {n : Nat} (hn : n < 2 ^ 31) : bnd (nI n).toInt64 0 9999 = nI (min n 9999) := by
  rw [← wth_bnd]
  unfold wth
  rw [if_pos (nI_pos' hn)]
  by_cases z : n ≤ 9999
  · rw [if_pos (show nI n ≤ 9999 from nI_le (b := 9999) z (by omega)), Nat.min_eq_left z]
  · rw [if_neg (show ¬ nI n ≤ 9999 from nI_ge (a := 9999) (by omega) hn), Nat.min_eq_right (by omega)]; rfl
/-- the row with other uses -/
def usA (a u : Nat → Int32) : Nat → Int32 := fun i => if 13 ≤ i ∧ i < 39 then u (i - 13) else a i
theorem usA_u {a u : Nat → Int32} {l : Nat} (hl : l < 26) : usA a u (13 + l) = u l := by
  unfold usA
  rw [if_pos (by omega), Nat.add_sub_cancel_left]
theorem usA_n {a u : Nat → Int32} {i : Nat} (hi : i < 13 ∨ 39 ≤ i) : usA a u i = a i := if_neg (by omega)
theorem usA_id {a : Nat → Int32} : usA a (fun l => a (13 + l)) = a := by
  funext i
  unfold usA
  split
  · rename_i h
    exact congrArg a (show 13 + (i - 13) = i by omega)
  · rfl
theorem usA_k {a u : Nat → Int32} {l : Nat} (hu : upR u 9999) (hl : l < 26) : upd (usA a u) (13 + l) (bnd (usA a u (13 + l) + 1 : Int32).toInt64 0 9999) = usA a (kst9 u (nI l)) := by
  obtain ⟨n, hn, en⟩ := hu l hl
  rw [usA_u hl, en, nI_1, bnd_nI (by omega)]
  unfold kst9
  rw [if_neg (nI_nm1 (by omega)), nI_clamp (by omega), en]
  funext i
  by_cases z : n = 9999
  · subst z
    rw [if_pos (by decide)]
    by_cases y : i = 13 + l
    · rw [y, upd_eq, usA_u hl, en]; rfl
    · rw [upd_ne y]
  · rw [if_neg (show ¬ 9999 ≤ nI n from nI_ge (b := 9999) (by omega) (by omega)), Nat.min_eq_left (by omega)]
    by_cases y : i = 13 + l
    · rw [y, upd_eq, usA_u hl, upd_eq, nI_1]
    · rw [upd_ne y]
      unfold usA
      split
      · rw [upd_ne (by omega)]
      · rfl
/-- what writing makes of the model's row, all but the line -/
def wsA (N : ev_Mem) (s f : Nat) (a : Nat → Int32) : Nat → Int32 := upd (usA a (prN N s f (fun l => a (13 + l)))) 10 (bnd (a 10 + scl N s f : Int32).toInt64 0 9999)
def wrA (N : ev_Mem) (s f wn : Nat) (x : Int32) (a : Nat → Int32) : Nat → Int32 := noA (wsA N s f a) wn (((nI s * 4) + 0) * 10000 + x)
theorem kX11_writeNow {Ni : ev_Mem} {wn : Nat} {x : Int32} (h : sdR M N W T lo) (hS : senR M N S) (hs : s < S) (hb : bN N s = some f) (hw : wdf (N.1 1) (Ni.1 1)) (hc : ∀ p, p < lnN N s → Ni.1 13 p = nI (hN N s f p)) (hu : upR (fun l => Ni.1 1 (13 + l)) 9999) (hwn : wn ≤ 30) (h12 : Ni.1 1 12 = nI wn) :
    Cl LM (d + 6) mX11_writeNow [.ref 0, .int (nI s), .int x] Ni (fun r N2 => r = none ∧ N2 = rowM Ni 1 (wrA N s f wn x (Ni.1 1))) := by
  have h8 := hS.1
  have hW := sd_wN h
  have h24 := h.w24
  obtain ⟨n1, n5, nn, -⟩ := sen_n hS hs
  have kp := sd_kp h hb
  refine Cl_of rfl (Nat.le_of_ble_eq_true rfl) rfl (gX11_writeNow_0 ?_)
  have fr : ∀ u, wdf (N.1 1) ((rowM Ni 1 (usA (Ni.1 1) u)).1 1) := fun u i hi => by rw [rowM_s, usA_n (by omega)]; exact hw i hi
  have c13 : ∀ u p, p < lnN N s → (rowM Ni 1 (usA (Ni.1 1) u)).1 13 p = nI (hN N s f p) := fun u p hp => by rw [rowM_n (by omega)]; exact hc p hp
  have lp : ∀ p, p ≤ lnN N s → Ev LM (d + 6) mX11_writeNow 2 [some (.ref 0), some (.int (nI s)), some (.int x), some (.int (nI p)), none, none] [] (rowM Ni 1 (usA (Ni.1 1) (sst9 (fun p => kyN N (hN N s f p)) (fun p => lnW N (hN N s f p)) (fun l => Ni.1 1 (13 + l)) p))) (fun r N2 => r = none ∧ N2 = rowM Ni 1 (wrA N s f wn x (Ni.1 1))) := by
    refine dn ?_ (fun p hp ih => ?_)
    · show Ev LM (d + 6) mX11_writeNow 2 [some (.ref 0), some (.int (nI s)), some (.int x), some (.int (nI (lnN N s))), none, none] [] (rowM Ni 1 (usA (Ni.1 1) (prN N s f (fun l => Ni.1 1 (13 + l))))) (fun r N2 => r = none ∧ N2 = rowM Ni 1 (wrA N s f wn x (Ni.1 1)))
      have fu := fr (prN N s f (fun l => Ni.1 1 (13 + l)))
      have es : (rowM Ni 1 (usA (Ni.1 1) (prN N s f (fun l => Ni.1 1 (13 + l))))).1 1 (351 + 6 * s) = nI (lnN N s) := by rw [fu _ (by omega)]; exact nn
      refine gX11_writeNow_2 (d := d + 5) ⟨i351 (by omega), fun _ => ⟨_, kX11_secondsIn (d := d + 1) (c := hN N s f) (by omega) n5 es (fun p hp => ⟨c13 _ p hp, wm_w fu (sd_wm h (by rw [← hW]; exact hN_lt hb p hp))⟩), fun zr N2 q => ?_⟩, fun z => absurd ?_ z⟩
      · rw [q.1, q.2]
        have e10 : smI (fun p => mS (rowM Ni 1 (usA (Ni.1 1) (prN N s f (fun l => Ni.1 1 (13 + l))))) (nI (hN N s f p))) (lnN N s) = scl N s f := smI_cg fun p hp => by
          have := hN_lt hb p hp
          exact mS_w fu (by omega) (sd_wm h (by omega))
        rw [e10]
        refine gX11_writeNow_122 (d := d + 5) ⟨vp_in_nI (n := 10) (by omega) (by omega), fun N3 e3 => ?_⟩
        have eN : N3 = rowM Ni 1 (wsA N s f (Ni.1 1)) := by
          rw [e3, show (10 : Int32).toNatClampNeg = 10 from rfl, rowM_w, rowM_s, usA_n (by omega)]; rfl
        rw [eN]
        have e12 : (rowM Ni 1 (wsA N s f (Ni.1 1))).1 1 12 = nI wn := by
          rw [rowM_s]; unfold wsA; rw [upd_ne (by omega), usA_n (by omega)]; exact h12
        refine ⟨_, kX11_note (d := d + 5) hwn e12, fun zr N4 q4 => ?_⟩
        rw [q4.1]
        refine gX11_writeNow_139 ⟨rfl, ?_⟩
        rw [q4.2, rowM_s]
        refine Prod.ext (funext fun a => funext fun b => ?_) rfl
        by_cases z : a = 1
        · subst z; rw [rowM_s, rowM_s]; rfl
        · rw [rowM_n z, rowM_n z, rowM_n z]
      · rw [c351 (by omega), es]; exact nI_le (Nat.le_refl _) (by omega)
    · have es : ∀ u, (rowM Ni 1 (usA (Ni.1 1) u)).1 1 (351 + 6 * s) = nI (lnN N s) := fun u => by rw [fr u _ (by omega)]; exact nn
      refine gX11_writeNow_2 (d := d + 5) ⟨i351 (by omega), fun z => ?_, fun _ => ?_⟩
      · rw [c351 (by omega), es] at z; exact absurd z (nI_ge hp (by omega))
      · have hwW := hN_lt hb p hp
        rw [hW] at hwW
        have sup := sst9_cap (u := fun l => Ni.1 1 (13 + l)) hu p (fun p' hp' => kp p' (by omega))
        have kpp := kp p hp
        rw [sst9] at ih
        generalize sst9 (fun p => kyN N (hN N s f p)) (fun p => lnW N (hN N s f p)) (fun l => Ni.1 1 (13 + l)) p = u at ih sup
        have ec : ∀ v, (rowM Ni 1 (usA (Ni.1 1) v)).1 13 p = nI (hN N s f p) := fun v => c13 v p hp
        generalize hN N s f p = w at hwW ih kpp ec
        obtain ⟨l1, l9, l3, l29, ll⟩ := sd_ln h hwW
        have lq : ∀ j, j ≤ lnW N w → Ev LM (d + 6) mX11_writeNow 14 [some (.ref 0), some (.int (nI s)), some (.int x), some (.int (nI p)), some (.int (nI j)), none] [] (rowM Ni 1 (usA (Ni.1 1) (wst9 (kyN N w) u j))) (fun r N2 => r = none ∧ N2 = rowM Ni 1 (wrA N s f wn x (Ni.1 1))) := by
          refine dn ?_ (fun j hj ih2 => ?_)
          · refine gX11_writeNow_14 (d := d + 5) ⟨vp_in_nI (by omega) (by omega), ?_⟩
            rw [nI_clamp (by omega), ec, aw3 (by omega), aw_w (fr _) (by omega) (by omega), l3]
            refine ⟨awi3 (by omega), fun _ => ?_, fun z => absurd (nI_le (Nat.le_refl _) (by omega)) z⟩
            rw [nI_1]; exact ih
          · obtain ⟨e5, l, hl26, el⟩ := ll j hj
            have wup := wst9_cap sup j (fun i hi => kpp.2 i (by omega))
            have kk := kpp.2 j hj
            rw [wst9] at ih2
            generalize wst9 (kyN N w) u j = v at ih2 wup
            refine gX11_writeNow_14 (d := d + 5) ⟨vp_in_nI (by omega) (by omega), ?_⟩
            rw [nI_clamp (by omega), ec, aw3 (by omega), aw4 (by omega) (by omega), aw_w (fr _) (by omega) (by omega), aw_w (fr _) (by omega) (by omega), l3]
            refine ⟨awi3 (by omega), fun z => absurd z (nI_ge hj (by omega)), fun _ => ⟨vp_in_nI (by omega) (by omega), vp_in_nI (by omega) (by omega), awi4 (by omega) (by omega), ?_⟩⟩
            rw [el]
            refine ⟨_, kX11_keyFor (d := d + 3) (w := w) (l := l) (by omega) (by omega), fun zr N6 q6 => ?_⟩
            have ek : kyf (aw (rowM Ni 1 (usA (Ni.1 1) v)) w 0) (fun l => (rowM Ni 1 (usA (Ni.1 1) v)).1 1 (399 + 2 * l)) ((rowM Ni 1 (usA (Ni.1 1) v)).1 1 9) (nI l) = kyN N w j := by
              unfold kyN
              rw [el, aw_w (fr _) (by omega) (by omega), fr v 9 (by omega)]
              unfold kyf
              rw [nI_clamp (by omega), show (fun l => (rowM Ni 1 (usA (Ni.1 1) v)).1 1 (399 + 2 * l)) l = (fun l => N.1 1 (399 + 2 * l)) l from fr v (399 + 2 * l) (by omega)]
            rw [ek] at q6
            rw [q6.1, q6.2]
            refine gX11_writeNow_54 ⟨fun z => ?_, fun z => ?_⟩
            · unfold kst9 at ih2
              rw [if_pos z] at ih2
              rw [nI_1]; exact ih2
            · obtain ⟨t, ht, et⟩ := kk.resolve_left z
              rw [et] at ih2 ⊢
              rw [show (13 : Int32) + nI t = nI (13 + t) from nI_add 13 t, nI_clamp (by omega)]
              refine ⟨vp_in_nI (by omega) (by omega), vp_in_nI (by omega) (by omega), fun N7 e7 => ?_⟩
              rw [rowM_w, rowM_s, usA_k wup ht] at e7
              rw [nI_1, e7]; exact ih2
        exact lq 0 (by omega)
  have := lp 0 (by omega)
  rw [sst9, usA_id, rowM_id] at this
  exact this
end
