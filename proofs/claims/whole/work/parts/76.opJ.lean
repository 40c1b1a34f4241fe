/-! CALLS: states -/
section
variable {d B : Nat} {M N : ev_Mem} {W T S s f : Nat} {lo : Int32}
theorem op_states (h : RX B M N) (x y u : Int32) : OP 200 mX10_states mX11_states [.int x, .int y, .int u] B M N := by
  obtain ⟨W, S, T, Wk, Sk, Tk, h1, h2, h3, h4, h5, h6⟩ := id h
  obtain ⟨hsd, hS⟩ := RX_sd h1 h4
  have h8 := hS.1
  have hW := hsd.w24
  have h31 := FAR31
  have hF : FARn = 1000000 := rfl
  by_cases hall : ∃ s p w, s < S ∧ x = nI s ∧ w < W ∧ u = nI w ∧ p < lnN N s ∧ y = nI p
  · obtain ⟨s, p, w, hs, rfl, hw, rfl, hp, rfl⟩ := hall
    obtain ⟨n1, n5, nn, n42, nr⟩ := sen_n hS hs
    have zm := wd_t hW hsd.mw ⟨w, hw, rfl⟩
    have zn := wd_t hW hsd.nw ⟨w, hw, rfl⟩
    have zs : iin (nI s) 0 (M.1 3 8 - 1) = true := by rw [hS.2.1]; exact (iin_N (by omega)).mpr ⟨s, hs, rfl⟩
    have zt := sen_t hS ⟨s, hs, rfl⟩
    have sn99 : ∀ w, w < W → snN N w < FARn → snN N w ≤ 99 := fun w hw hl => by
      rcases (sfw_sn (N := N) (w := w)).2 with q | q
      · exact q
      · omega
    have hub : ∀ k, k < 5 → ∀ w, w < W → uvN N (snN N) W s k w = FARn ∨ uvN N (snN N) W s k w ≤ 1000 := fun k hk w hw => by
      rcases upk_b (kd := fun w => aw N w 0) (se := fun w => aw N w 1) (row := fun q => N.1 1 (351 + 6 * s + 1 + q)) sn99 k w hw with z | z
      · exact Or.inl z
      · exact Or.inr (by unfold uvN; omega)
    refine op_ro (v := some (.int (if uvN N (snN N) W s p w = FARn then -1 else nI (uvN N (snN N) W s p w)))) h ?_ ?_
    · refine Cl_of rfl (Nat.le_of_ble_eq_true rfl) rfl (gX10_states_0 (d := 199) ⟨okS_of hS, fun z => bb z zs, fun _ => ⟨⟨W, hW, hsd.mw⟩, fun z => bb z zm, fun _ => ⟨fun z => absurd z (nI_pos (by omega)), fun _ => ⟨vp_in_nI (by omega) (by omega), ?_⟩⟩⟩⟩)
      rw [nI_clamp (by omega), n42]
      refine ⟨fun _ => ⟨_, hearN (d := 194) hsd, fun zr M1 q => ?_⟩, fun z => absurd (nI_lt hp (by omega)) z⟩
      rw [q.1]
      have hc : ∀ k, k < 82 → M1.1 k = M.1 k := fun k hk => q.2.1.1 k (by omega)
      have hs1 := sdR_cg hc hsd
      refine gX10_states_45 (d := 199) ⟨_, kX6_costUpTo (d := 196) (n := lnN N s) (W := W) (sn := snN N) (by omega) (by omega) hw hs1.mw hW (supO_sn q.2.2.2.2), fun zr M2 q2 => ?_⟩
      have e : upk (M1.1 30) (M1.1 31) (snN N) W (M1.1 (34 + s)) p w = uvN N (snN N) W s p w := by
        unfold uvN
        refine upk_cg (n := lnN N s) (fun v hv => (hs1.wr v hv).1.2.1) (fun v hv => (hs1.wr v hv).1.2.2.1) (fun q hq => ?_) p hp w hw
        rw [hc (34 + s) (by omega)]; exact nr q hq
      rw [q2.1, e]
      have hx := xq_q ((qfr_u q.2.1).tr (qfr_p q2.2))
      rcases hub p (by omega) w hw with z | z
      · refine gX10_states_55 ⟨fun _ => ⟨by rw [if_pos z], hx⟩, fun y => absurd ?_ y⟩
        rw [z]; exact Int32.le_refl _
      · have zz : ¬ uvN N (snN N) W s p w = FARn := fun q => by rw [q] at z; revert z; decide
        refine gX10_states_55 ⟨fun y => ?_, fun _ => ⟨by rw [if_neg zz], hx⟩⟩
        have := (nI_leI (a := FARn) h31 (by omega)).mp y
        unfold FARn at this
        omega
    · refine Cl_of rfl (Nat.le_of_ble_eq_true rfl) rfl (gX11_states_0 (d := 198) ⟨fun z => bb z zt, fun _ => ⟨i351 (by omega), ?_⟩⟩)
      rw [c351 (by omega), nn]
      have zp : iin (nI p) 0 (nI (lnN N s) - 1) = true := (iin_N (by omega)).mpr ⟨p, hp, rfl⟩
      refine ⟨fun z => bb z zp, fun _ => ⟨fun _ => ⟨_, layN (d := 194) hsd, fun zr N1 q => ?_⟩, fun z => bb z zn⟩⟩
      rw [q.1]
      refine gX11_states_37 ?_
      have lp : ∀ i, i ≤ p + 1 → ∀ N2, me N N2 → laid N N2 W → (∀ k, k + 1 = i → ∀ w, w < W → N2.1 14 w = nI (uvN N (snN N) W s k w) ∧ N2.1 15 w = nI (uvN N (snN N) W s k w)) → Ev LM 200 mX11_states 40 [some (.ref 0), some (.int (nI s)), some (.int (nI p)), some (.int (nI w)), some (.int (nI i))] [] N2 (fun r N2 => r = some (.int (if uvN N (snN N) W s p w = FARn then -1 else nI (uvN N (snN N) W s p w))) ∧ pe N N2) := by
        refine dn ?_ (fun i hi ih => ?_)
        · intro N2 hm hl hr
          refine gX11_states_40 (d := 199) ⟨fun _ => ⟨vp_in_nI (by omega) (by omega), ?_⟩, fun z => absurd (nI_lt (by omega) (by omega)) z⟩
          rw [nI_clamp (by omega), (hr p rfl w hw).1]
          rcases hub p (by omega) w hw with z | z
          · rw [z]
            exact ⟨fun y => absurd rfl y, fun _ => ⟨by rw [if_pos rfl], me_pe hm⟩⟩
          · have zz : ¬ uvN N (snN N) W s p w = FARn := fun q => by rw [q] at z; revert z; decide
            refine ⟨fun _ => ⟨vp_in_nI (by omega) (by omega), by rw [if_neg zz], me_pe hm⟩, fun y => absurd ((nI_eq (b := FARn) (by omega) h31).mp y) zz⟩
        · intro N2 hm hl hr
          have e1 := hm 1 (by omega)
          refine gX11_states_40 (d := 199) ⟨fun z => absurd z (nI_nlt (by omega) (by omega)), fun _ => ⟨_, layUp (d := 197) (W := W) (sn := snN N) (C := uvN N (snN N) W s (i - 1)) (V := uvN N (snN N) W s i) (by omega) (by omega) (by rw [e1]; exact hsd.nw) hW (fun w hw => by rw [hl w hw]; exact sfw_sn) (fun i0 w hw => ⟨(hr (i - 1) (by omega) w hw).2, hub (i - 1) (by omega) w hw⟩) (fun i0 => ?_) (fun i0 => ?_), fun zr N3 q3 => ?_⟩⟩
          · subst i0; unfold uvN; rw [aw_1 e1, e1]; rfl
          · obtain ⟨j, rfl⟩ : ∃ j, i = j + 1 := ⟨i - 1, by omega⟩
            unfold uvN; rw [aw_1 e1, e1]; rfl
          · rw [q3.1]
            refine gX11_states_53 ?_
            rw [nI_1]
            refine ih N3 (hm.tr (fun k hk => q3.2.1.1 k (by omega) (by omega))) (fun w hw => by rw [q3.2.1.1 11 (by omega) (by omega)]; exact hl w hw) (fun k hk w hw => ?_)
            obtain rfl : k = i := by omega
            exact q3.2.2 w hw
      exact lp 0 (by omega) N1 q.2.1 q.2.2 (fun k hk => absurd hk (by omega))
  · refine op_ro (v := some (.int (-1))) h ?_ ?_
    · refine Cl_of rfl (Nat.le_of_ble_eq_true rfl) rfl (gX10_states_0 (d := 199) ⟨okS_of hS, fun _ => ⟨rfl, xq.rf⟩, fun a1 => ⟨⟨W, hW, hsd.mw⟩, fun _ => ⟨rfl, xq.rf⟩, fun a2 => ⟨fun _ => ⟨rfl, xq.rf⟩, fun a3 => ?_⟩⟩⟩)
      rw [hS.2.1] at a1
      rw [hsd.mw] at a2
      obtain ⟨s, hs, rfl⟩ := (iin_N (by omega)).mp a1
      obtain ⟨w, hw, rfl⟩ := (iin_N (by omega)).mp a2
      obtain ⟨n1, n5, nn, n42, nr⟩ := sen_n hS hs
      refine ⟨vp_in_nI (by omega) (by omega), ?_⟩
      rw [nI_clamp (by omega), n42]
      refine ⟨fun a4 => ?_, fun _ => ⟨rfl, xq.rf⟩⟩
      obtain ⟨p, hp, rfl⟩ := nI_of a3
      exact absurd ⟨s, p, w, hs, rfl, hw, rfl, (nI_ltI hp (by omega)).mp a4, rfl⟩ hall
    · refine Cl_of rfl (Nat.le_of_ble_eq_true rfl) rfl (gX11_states_0 (d := 198) ⟨fun _ => ⟨rfl, pe.rf⟩, fun a1 => ?_⟩)
      rw [hS.2.2.1] at a1
      obtain ⟨s, hs, rfl⟩ := (iin_N (by omega)).mp a1
      obtain ⟨n1, n5, nn, n42, nr⟩ := sen_n hS hs
      refine ⟨i351 (by omega), ?_⟩
      rw [c351 (by omega), nn]
      refine ⟨fun _ => ⟨rfl, pe.rf⟩, fun a2 => ⟨fun a3 => ?_, fun _ => ⟨rfl, pe.rf⟩⟩⟩
      rw [hsd.nw] at a3
      obtain ⟨p, hp, rfl⟩ := (iin_N (by omega)).mp a2
      obtain ⟨w, hw, rfl⟩ := (iin_N (by omega)).mp a3
      exact absurd ⟨s, p, w, hs, rfl, hw, rfl, hp, rfl⟩ hall
end
