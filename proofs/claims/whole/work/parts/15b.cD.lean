/-! contracts: the model's words -/
section
variable {d : Nat} {M : ev_Mem}
theorem kX11_isMadeOfLeft {x : Int32} (h : vp_in (399 + 2 * x) 3315) : Cl LM (d + 2) mX11_isMadeOfLeft [.ref 0, .int x] M (ev_R (some (.int (bi (mdl (M.1 1 9) (M.1 1 (399 + 2 * x).toNatClampNeg))))) M) := by
  refine Cl_of rfl (Nat.le_of_ble_eq_true rfl) rfl (gX11_isMadeOfLeft_0 ⟨h, fun q => ⟨?_, rfl⟩, fun q => ⟨h, fun q2 => ⟨?_, rfl⟩, fun q2 => ⟨?_, rfl⟩⟩⟩)
  · rw [mdl, decide_eq_true q]; rfl
  · rw [mdl, decide_eq_false q, q2]; rfl
  · rw [mdl, decide_eq_false q, q2]; rfl
theorem kX11_holesOf {x : Int32} (h : wm M x) : Cl LM (d + 2) mX11_holesOf [.ref 0, .int x] M (ev_R (some (.int (nI (mH M x)))) M) := by
  obtain ⟨w, n, rfl, hw, hn, hl, hf, -⟩ := h
  have eH : mH M (nI w) = hol (fun i => aw M w (4 + i)) (M.1 1 9) n := by
    unfold mH
    rw [nI_clamp (by omega), hl, nI_clamp (by omega)]
  rw [eH]
  refine Cl_of rfl (Nat.le_of_ble_eq_true rfl) rfl (gX11_holesOf_0 ?_)
  have lp : ∀ j i, i + j = n → Ev LM (d + 2) mX11_holesOf 4 [some (.ref 0), some (.int (nI w)), some (.int (nI (hol (fun i => aw M w (4 + i)) (M.1 1 9) i))), some (.int (nI i))] [] M (ev_R (some (.int (nI (hol (fun i => aw M w (4 + i)) (M.1 1 9) n)))) M) := by
    intro j
    induction j with
    | zero =>
      intro i hi
      obtain rfl : i = n := by omega
      refine gX11_holesOf_4 ⟨awi3 hw, fun _ => ⟨rfl, rfl⟩, fun h => absurd ?_ h⟩
      rw [aw3 hw, hl]
      exact nI_le (Nat.le_refl _) (by omega)
    | succ j ih =>
      intro i hi
      refine gX11_holesOf_4 ⟨awi3 hw, fun h => ?_, fun _ => ⟨awi4 hw (by omega), fun h => ?_, fun h => ?_⟩⟩
      · rw [aw3 hw, hl] at h
        exact absurd h (nI_ge (by omega) (by omega))
      · rw [aw4 hw (by omega)] at h
        rw [nI_1, show (0 : Int32) = nI 0 from rfl, nI_add, Nat.add_zero]
        have := ih (i + 1) (by omega)
        rw [hol_no (f := fun i => aw M w (4 + i)) h] at this
        exact this
      · rw [aw4 hw (by omega)] at h
        rw [nI_1, nI_1]
        have := ih (i + 1) (by omega)
        rw [hol_yes (f := fun i => aw M w (4 + i)) h] at this
        exact this
  exact lp n 0 (by omega)
end
