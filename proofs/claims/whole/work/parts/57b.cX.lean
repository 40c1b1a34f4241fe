/-! whether there is such a text; what is refused -/
section
variable {d : Nat} {M N : ev_Mem}
theorem Cl.mono {L : List ev_C} {y : ev_Y} {as : List Value} {Q Q2 : Option Value → ev_Mem → Prop} (h : Cl L d y as M Q) (hq : ∀ r M', Q r M' → Q2 r M') : Cl L d y as M Q2 := by
  intro l D ad ids p e ha hc hk s m args below hs hS hP hK
  obtain ⟨n, o, h1, h2, h3, ⟨⟨r, M', c1, c2, c3⟩, c4⟩, h5⟩ := h l D ad ids p e ha hc hk s m args below hs hS hP hK
  exact ⟨n, o, h1, h2, h3, ⟨⟨r, M', c1, hq r M' c2, c3⟩, c4⟩, h5⟩
def okT (M : ev_Mem) : Prop := ∃ T, T ≤ 4 ∧ M.1 47 2 = nI T ∧ (M.1 47 3 = -1 ∨ ∃ t, t < T ∧ M.1 47 3 = nI t)
theorem kX10_hasText {x : Int32} (h : okT M) : Cl LX d mX10_hasText [.ref 0, .int x] M (ev_R (some (.int (bi (iin x 0 (M.1 47 2 - 1))))) M) := by
  obtain ⟨T, hT, e, -⟩ := h
  refine Cl_of rfl (Nat.le_of_ble_eq_true rfl) rfl (gX10_hasText_0 ?_)
  rw [e]
  have hn : ∀ v, (∀ j, j < T → x = nI j → v = (1 : Int32)) → ((¬ ∃ j, j < T ∧ x = nI j) → v = 0) → bi (iin x 0 (nI T - 1)) = v := by
    intro v h1 h2
    by_cases hx : ∃ j, j < T ∧ x = nI j
    · rw [(iin_N (by omega)).mpr hx]
      obtain ⟨j, hj, ej⟩ := hx
      exact (h1 j hj ej).symm
    · have : iin x 0 (nI T - 1) = false := by
        rw [← Bool.not_eq_true]
        exact fun z => hx ((iin_N (by omega)).mp z)
      rw [this]
      exact (h2 hx).symm
  refine ⟨fun h => ⟨?_, rfl⟩, fun h => ⟨fun h2 => ⟨?_, rfl⟩, fun h2 => ⟨fun h3 => ⟨?_, rfl⟩, fun h3 => ⟨?_, rfl⟩⟩⟩⟩
  · rw [hn 0 (fun j hj ej => by rw [ej] at h; exact absurd h (nI_pos (by omega))) (fun _ => rfl)]
  · rw [hn 0 (fun j hj ej => by rw [ej] at h2; exact absurd h2 (nI_ge hj (by omega))) (fun _ => rfl)]
  · rw [hn 0 (fun j hj ej => by rw [ej] at h3; exact absurd (show nI 4 ≤ nI j from h3) (nI_ge (by omega) (by omega))) (fun _ => rfl)]
  · obtain ⟨j, hj, rfl⟩ := nI_of h
    have : j < T := by
      rcases Nat.lt_or_ge j T with z | z
      · exact z
      · exact absurd (nI_le z hj) h2
    rw [hn 1 (fun _ _ _ => rfl) (fun z => absurd ⟨j, this, rfl⟩ z)]
theorem qX10_refuse {x : Int32} (h : vp_in x 3) : Cl LX d mX10_refuse [.ref 0, .int x] M (ev_R (some (.int (-1))) (rfs M 117 x.toNatClampNeg)) := by
  obtain ⟨r, hr, rfl⟩ := vp_in_of h (by omega)
  rw [nI_clamp (by omega)]
  exact kX10_refuse hr
theorem qX11_refused {x : Int32} (h : vp_in x 3) : Cl LM d mX11_refused [.ref 0, .int x] M (ev_R (some (.int (-1))) (rfs M 3 x.toNatClampNeg)) := by
  obtain ⟨r, hr, rfl⟩ := vp_in_of h (by omega)
  rw [nI_clamp (by omega)]
  exact kX11_refused hr
theorem kX6_forget : Cl LX d mX6_forget [.ref 86] M (ev_R none (ev_wr M 86 8 (-1))) :=
  Cl_of rfl (Nat.le_of_ble_eq_true rfl) rfl (gX6_forget_0 fun _ e1 => ⟨rfl, e1⟩)
end
